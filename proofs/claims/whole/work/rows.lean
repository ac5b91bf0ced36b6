section
-- ===== PART A: goes FIRST, ahead of the names: the tables' words, and 'selects' of the private methods out of them =====
/-- a private method of a class that the tables say can be made, by its rows of tables_1 -/
def lw_okq (q : MethodName × Nat) : Prop := (q.1.cls ≠ "java/lang/invoke/MethodHandle" ∧ q.1.cls ≠ "java/lang/invoke/VarHandle") ∧ Cond.instantiable q.1.cls q.2 ∈ tables_1 ∧ Cond.privateMethod q.1 ∈ tables_1 ∧ Cond.instanceMethod q.1 ∈ tables_1
theorem lw_p0 : lw_okq (⟨"ParserProof", "dropAutomaton", "()V"⟩, 5) := ⟨⟨by decide +kernel, by decide +kernel⟩, List.mem_of_getElem? (i := 18) (by decide +kernel), List.mem_of_getElem? (i := 177) (by decide +kernel), List.mem_of_getElem? (i := 178) (by decide +kernel)⟩
theorem lw_p1 : lw_okq (⟨"java/lang/Throwable", "fillInStackTrace", "(I)Ljava/lang/Throwable;"⟩, 6) := ⟨⟨by decide +kernel, by decide +kernel⟩, List.mem_of_getElem? (i := 289) (by decide +kernel), List.mem_of_getElem? (i := 287) (by decide +kernel), List.mem_of_getElem? (i := 288) (by decide +kernel)⟩
theorem lw_p2 : lw_okq (⟨"ParserProof", "requirePlace", "(II)V"⟩, 5) := ⟨⟨by decide +kernel, by decide +kernel⟩, List.mem_of_getElem? (i := 18) (by decide +kernel), List.mem_of_getElem? (i := 463) (by decide +kernel), List.mem_of_getElem? (i := 464) (by decide +kernel)⟩
theorem lw_p3 : lw_okq (⟨"ParserProof", "requireState", "(I)V"⟩, 5) := ⟨⟨by decide +kernel, by decide +kernel⟩, List.mem_of_getElem? (i := 18) (by decide +kernel), List.mem_of_getElem? (i := 467) (by decide +kernel), List.mem_of_getElem? (i := 468) (by decide +kernel)⟩
theorem lw_p4 : lw_okq (⟨"ParserProof", "isEntry", "(I)Z"⟩, 5) := ⟨⟨by decide +kernel, by decide +kernel⟩, List.mem_of_getElem? (i := 18) (by decide +kernel), List.mem_of_getElem? (i := 496) (by decide +kernel), List.mem_of_getElem? (i := 497) (by decide +kernel)⟩
theorem lw_p5 : lw_okq (⟨"ParserProof", "requireItem", "(IIII)V"⟩, 5) := ⟨⟨by decide +kernel, by decide +kernel⟩, List.mem_of_getElem? (i := 18) (by decide +kernel), List.mem_of_getElem? (i := 510) (by decide +kernel), List.mem_of_getElem? (i := 511) (by decide +kernel)⟩
theorem lw_p6 : lw_okq (⟨"ParserProof", "isItem", "(III)Z"⟩, 5) := ⟨⟨by decide +kernel, by decide +kernel⟩, List.mem_of_getElem? (i := 18) (by decide +kernel), List.mem_of_getElem? (i := 514) (by decide +kernel), List.mem_of_getElem? (i := 515) (by decide +kernel)⟩
theorem lw_p7 : lw_okq (⟨"ParserProof", "requireAutomaton", "()V"⟩, 5) := ⟨⟨by decide +kernel, by decide +kernel⟩, List.mem_of_getElem? (i := 18) (by decide +kernel), List.mem_of_getElem? (i := 543) (by decide +kernel), List.mem_of_getElem? (i := 544) (by decide +kernel)⟩
theorem lw_p8 : lw_okq (⟨"ParserProofModel", "fail", "(I)I"⟩, 30) := ⟨⟨by decide +kernel, by decide +kernel⟩, List.mem_of_getElem? (i := 659) (by decide +kernel), List.mem_of_getElem? (i := 764) (by decide +kernel), List.mem_of_getElem? (i := 765) (by decide +kernel)⟩
theorem lw_p9 : lw_okq (⟨"ParserProofModel", "forget", "()V"⟩, 30) := ⟨⟨by decide +kernel, by decide +kernel⟩, List.mem_of_getElem? (i := 659) (by decide +kernel), List.mem_of_getElem? (i := 768) (by decide +kernel), List.mem_of_getElem? (i := 769) (by decide +kernel)⟩
theorem lw_p10 : lw_okq (⟨"ParserProofModel", "forgetParse", "()V"⟩, 30) := ⟨⟨by decide +kernel, by decide +kernel⟩, List.mem_of_getElem? (i := 659) (by decide +kernel), List.mem_of_getElem? (i := 772) (by decide +kernel), List.mem_of_getElem? (i := 773) (by decide +kernel)⟩
theorem lw_p11 : lw_okq (⟨"ParserProofModel", "note", "(IIII)Z"⟩, 30) := ⟨⟨by decide +kernel, by decide +kernel⟩, List.mem_of_getElem? (i := 659) (by decide +kernel), List.mem_of_getElem? (i := 776) (by decide +kernel), List.mem_of_getElem? (i := 777) (by decide +kernel)⟩
theorem lw_p12 : lw_okq (⟨"ParserProofModel", "study", "()V"⟩, 30) := ⟨⟨by decide +kernel, by decide +kernel⟩, List.mem_of_getElem? (i := 659) (by decide +kernel), List.mem_of_getElem? (i := 788) (by decide +kernel), List.mem_of_getElem? (i := 789) (by decide +kernel)⟩
theorem lw_p13 : lw_okq (⟨"ParserProofModel", "isEmpty", "(III)Z"⟩, 30) := ⟨⟨by decide +kernel, by decide +kernel⟩, List.mem_of_getElem? (i := 659) (by decide +kernel), List.mem_of_getElem? (i := 792) (by decide +kernel), List.mem_of_getElem? (i := 793) (by decide +kernel)⟩
theorem lw_p14 : lw_okq (⟨"ParserProofModel", "next", "(II)I"⟩, 30) := ⟨⟨by decide +kernel, by decide +kernel⟩, List.mem_of_getElem? (i := 659) (by decide +kernel), List.mem_of_getElem? (i := 796) (by decide +kernel), List.mem_of_getElem? (i := 797) (by decide +kernel)⟩
theorem lw_p15 : lw_okq (⟨"ParserProofModel", "sizeOf", "(I)I"⟩, 30) := ⟨⟨by decide +kernel, by decide +kernel⟩, List.mem_of_getElem? (i := 659) (by decide +kernel), List.mem_of_getElem? (i := 800) (by decide +kernel), List.mem_of_getElem? (i := 801) (by decide +kernel)⟩
def lw_privs_1 : List (MethodName × Nat) := [(⟨"ParserProof", "dropAutomaton", "()V"⟩, 5), (⟨"java/lang/Throwable", "fillInStackTrace", "(I)Ljava/lang/Throwable;"⟩, 6), (⟨"ParserProof", "requirePlace", "(II)V"⟩, 5), (⟨"ParserProof", "requireState", "(I)V"⟩, 5), (⟨"ParserProof", "isEntry", "(I)Z"⟩, 5), (⟨"ParserProof", "requireItem", "(IIII)V"⟩, 5), (⟨"ParserProof", "isItem", "(III)Z"⟩, 5), (⟨"ParserProof", "requireAutomaton", "()V"⟩, 5), (⟨"ParserProofModel", "fail", "(I)I"⟩, 30), (⟨"ParserProofModel", "forget", "()V"⟩, 30), (⟨"ParserProofModel", "forgetParse", "()V"⟩, 30), (⟨"ParserProofModel", "note", "(IIII)Z"⟩, 30), (⟨"ParserProofModel", "study", "()V"⟩, 30), (⟨"ParserProofModel", "isEmpty", "(III)Z"⟩, 30), (⟨"ParserProofModel", "next", "(II)I"⟩, 30), (⟨"ParserProofModel", "sizeOf", "(I)I"⟩, 30)]
theorem lw_r1 : ∀ q ∈ lw_privs_1, lw_okq q := List.forall_mem_cons.mpr ⟨lw_p0, List.forall_mem_cons.mpr ⟨lw_p1, List.forall_mem_cons.mpr ⟨lw_p2, List.forall_mem_cons.mpr ⟨lw_p3, List.forall_mem_cons.mpr ⟨lw_p4, List.forall_mem_cons.mpr ⟨lw_p5, List.forall_mem_cons.mpr ⟨lw_p6, List.forall_mem_cons.mpr ⟨lw_p7, List.forall_mem_cons.mpr ⟨lw_p8, List.forall_mem_cons.mpr ⟨lw_p9, List.forall_mem_cons.mpr ⟨lw_p10, List.forall_mem_cons.mpr ⟨lw_p11, List.forall_mem_cons.mpr ⟨lw_p12, List.forall_mem_cons.mpr ⟨lw_p13, List.forall_mem_cons.mpr ⟨lw_p14, List.forall_mem_cons.mpr ⟨lw_p15, fun _ h => absurd h List.not_mem_nil⟩⟩⟩⟩⟩⟩⟩⟩⟩⟩⟩⟩⟩⟩⟩⟩
theorem lw_p16 : lw_okq (⟨"ParserProofModel", "vanishes", "(I)Z"⟩, 30) := ⟨⟨by decide +kernel, by decide +kernel⟩, List.mem_of_getElem? (i := 659) (by decide +kernel), List.mem_of_getElem? (i := 804) (by decide +kernel), List.mem_of_getElem? (i := 805) (by decide +kernel)⟩
theorem lw_p17 : lw_okq (⟨"ParserProofModel", "beginSet", "()V"⟩, 30) := ⟨⟨by decide +kernel, by decide +kernel⟩, List.mem_of_getElem? (i := 659) (by decide +kernel), List.mem_of_getElem? (i := 808) (by decide +kernel), List.mem_of_getElem? (i := 809) (by decide +kernel)⟩
theorem lw_p18 : lw_okq (⟨"ParserProofModel", "add", "(I)V"⟩, 30) := ⟨⟨by decide +kernel, by decide +kernel⟩, List.mem_of_getElem? (i := 659) (by decide +kernel), List.mem_of_getElem? (i := 815) (by decide +kernel), List.mem_of_getElem? (i := 816) (by decide +kernel)⟩
theorem lw_p19 : lw_okq (⟨"ParserProofModel", "close", "()V"⟩, 30) := ⟨⟨by decide +kernel, by decide +kernel⟩, List.mem_of_getElem? (i := 659) (by decide +kernel), List.mem_of_getElem? (i := 819) (by decide +kernel), List.mem_of_getElem? (i := 820) (by decide +kernel)⟩
theorem lw_p20 : lw_okq (⟨"ParserProofModel", "isFirst", "(IIII)Z"⟩, 30) := ⟨⟨by decide +kernel, by decide +kernel⟩, List.mem_of_getElem? (i := 659) (by decide +kernel), List.mem_of_getElem? (i := 823) (by decide +kernel), List.mem_of_getElem? (i := 824) (by decide +kernel)⟩
theorem lw_p21 : lw_okq (⟨"ParserProofModel", "settle", "()I"⟩, 30) := ⟨⟨by decide +kernel, by decide +kernel⟩, List.mem_of_getElem? (i := 659) (by decide +kernel), List.mem_of_getElem? (i := 827) (by decide +kernel), List.mem_of_getElem? (i := 828) (by decide +kernel)⟩
theorem lw_p22 : lw_okq (⟨"ParserProofModel", "go", "(II)Z"⟩, 30) := ⟨⟨by decide +kernel, by decide +kernel⟩, List.mem_of_getElem? (i := 659) (by decide +kernel), List.mem_of_getElem? (i := 831) (by decide +kernel), List.mem_of_getElem? (i := 832) (by decide +kernel)⟩
theorem lw_p23 : lw_okq (⟨"ParserProofModel", "reduce", "(I)Z"⟩, 30) := ⟨⟨by decide +kernel, by decide +kernel⟩, List.mem_of_getElem? (i := 659) (by decide +kernel), List.mem_of_getElem? (i := 835) (by decide +kernel), List.mem_of_getElem? (i := 836) (by decide +kernel)⟩
theorem lw_p24 : lw_okq (⟨"ParserProofModel", "isState", "(I)Z"⟩, 30) := ⟨⟨by decide +kernel, by decide +kernel⟩, List.mem_of_getElem? (i := 659) (by decide +kernel), List.mem_of_getElem? (i := 847) (by decide +kernel), List.mem_of_getElem? (i := 848) (by decide +kernel)⟩
theorem lw_p25 : lw_okq (⟨"ParserProofModel", "isItem", "(III)Z"⟩, 30) := ⟨⟨by decide +kernel, by decide +kernel⟩, List.mem_of_getElem? (i := 659) (by decide +kernel), List.mem_of_getElem? (i := 862) (by decide +kernel), List.mem_of_getElem? (i := 863) (by decide +kernel)⟩
theorem lw_p26 : lw_okq (⟨"ParserProofModel", "has2", "(IIII)Z"⟩, 30) := ⟨⟨by decide +kernel, by decide +kernel⟩, List.mem_of_getElem? (i := 659) (by decide +kernel), List.mem_of_getElem? (i := 866) (by decide +kernel), List.mem_of_getElem? (i := 867) (by decide +kernel)⟩
theorem lw_p27 : lw_okq (⟨"ParserProofModel", "hasBadEntry", "(I)Z"⟩, 30) := ⟨⟨by decide +kernel, by decide +kernel⟩, List.mem_of_getElem? (i := 659) (by decide +kernel), List.mem_of_getElem? (i := 878) (by decide +kernel), List.mem_of_getElem? (i := 879) (by decide +kernel)⟩
theorem lw_p28 : lw_okq (⟨"ParserProofModel", "isForeign", "(II)Z"⟩, 30) := ⟨⟨by decide +kernel, by decide +kernel⟩, List.mem_of_getElem? (i := 659) (by decide +kernel), List.mem_of_getElem? (i := 882) (by decide +kernel), List.mem_of_getElem? (i := 883) (by decide +kernel)⟩
theorem lw_p29 : lw_okq (⟨"ParserProofModel", "goes", "(II)Z"⟩, 30) := ⟨⟨by decide +kernel, by decide +kernel⟩, List.mem_of_getElem? (i := 659) (by decide +kernel), List.mem_of_getElem? (i := 886) (by decide +kernel), List.mem_of_getElem? (i := 887) (by decide +kernel)⟩
theorem lw_p30 : lw_okq (⟨"ParserProofModel", "isBold", "(II)Z"⟩, 30) := ⟨⟨by decide +kernel, by decide +kernel⟩, List.mem_of_getElem? (i := 659) (by decide +kernel), List.mem_of_getElem? (i := 890) (by decide +kernel), List.mem_of_getElem? (i := 891) (by decide +kernel)⟩
theorem lw_p31 : lw_okq (⟨"ParserProofModel", "hasBadItem", "(I)Z"⟩, 30) := ⟨⟨by decide +kernel, by decide +kernel⟩, List.mem_of_getElem? (i := 659) (by decide +kernel), List.mem_of_getElem? (i := 894) (by decide +kernel), List.mem_of_getElem? (i := 895) (by decide +kernel)⟩
def lw_privs_2 : List (MethodName × Nat) := [(⟨"ParserProofModel", "vanishes", "(I)Z"⟩, 30), (⟨"ParserProofModel", "beginSet", "()V"⟩, 30), (⟨"ParserProofModel", "add", "(I)V"⟩, 30), (⟨"ParserProofModel", "close", "()V"⟩, 30), (⟨"ParserProofModel", "isFirst", "(IIII)Z"⟩, 30), (⟨"ParserProofModel", "settle", "()I"⟩, 30), (⟨"ParserProofModel", "go", "(II)Z"⟩, 30), (⟨"ParserProofModel", "reduce", "(I)Z"⟩, 30), (⟨"ParserProofModel", "isState", "(I)Z"⟩, 30), (⟨"ParserProofModel", "isItem", "(III)Z"⟩, 30), (⟨"ParserProofModel", "has2", "(IIII)Z"⟩, 30), (⟨"ParserProofModel", "hasBadEntry", "(I)Z"⟩, 30), (⟨"ParserProofModel", "isForeign", "(II)Z"⟩, 30), (⟨"ParserProofModel", "goes", "(II)Z"⟩, 30), (⟨"ParserProofModel", "isBold", "(II)Z"⟩, 30), (⟨"ParserProofModel", "hasBadItem", "(I)Z"⟩, 30)]
theorem lw_r2 : ∀ q ∈ lw_privs_2, lw_okq q := List.forall_mem_cons.mpr ⟨lw_p16, List.forall_mem_cons.mpr ⟨lw_p17, List.forall_mem_cons.mpr ⟨lw_p18, List.forall_mem_cons.mpr ⟨lw_p19, List.forall_mem_cons.mpr ⟨lw_p20, List.forall_mem_cons.mpr ⟨lw_p21, List.forall_mem_cons.mpr ⟨lw_p22, List.forall_mem_cons.mpr ⟨lw_p23, List.forall_mem_cons.mpr ⟨lw_p24, List.forall_mem_cons.mpr ⟨lw_p25, List.forall_mem_cons.mpr ⟨lw_p26, List.forall_mem_cons.mpr ⟨lw_p27, List.forall_mem_cons.mpr ⟨lw_p28, List.forall_mem_cons.mpr ⟨lw_p29, List.forall_mem_cons.mpr ⟨lw_p30, List.forall_mem_cons.mpr ⟨lw_p31, fun _ h => absurd h List.not_mem_nil⟩⟩⟩⟩⟩⟩⟩⟩⟩⟩⟩⟩⟩⟩⟩⟩
theorem lw_p32 : lw_okq (⟨"ParserProofModel", "isBad", "(IIIII)Z"⟩, 30) := ⟨⟨by decide +kernel, by decide +kernel⟩, List.mem_of_getElem? (i := 659) (by decide +kernel), List.mem_of_getElem? (i := 898) (by decide +kernel), List.mem_of_getElem? (i := 899) (by decide +kernel)⟩
theorem lw_p33 : lw_okq (⟨"ParserProofModel", "isAnswered", "(IIII)Z"⟩, 30) := ⟨⟨by decide +kernel, by decide +kernel⟩, List.mem_of_getElem? (i := 659) (by decide +kernel), List.mem_of_getElem? (i := 902) (by decide +kernel), List.mem_of_getElem? (i := 903) (by decide +kernel)⟩
theorem lw_p34 : lw_okq (⟨"ParserProofModel", "advance", "()I"⟩, 30) := ⟨⟨by decide +kernel, by decide +kernel⟩, List.mem_of_getElem? (i := 659) (by decide +kernel), List.mem_of_getElem? (i := 922) (by decide +kernel), List.mem_of_getElem? (i := 923) (by decide +kernel)⟩
theorem lw_p35 : lw_okq (⟨"ParserProofModel", "shift", "(I)I"⟩, 30) := ⟨⟨by decide +kernel, by decide +kernel⟩, List.mem_of_getElem? (i := 659) (by decide +kernel), List.mem_of_getElem? (i := 926) (by decide +kernel), List.mem_of_getElem? (i := 927) (by decide +kernel)⟩
theorem lw_p36 : lw_okq (⟨"ParserProofModel", "create", "(IIII)V"⟩, 30) := ⟨⟨by decide +kernel, by decide +kernel⟩, List.mem_of_getElem? (i := 659) (by decide +kernel), List.mem_of_getElem? (i := 930) (by decide +kernel), List.mem_of_getElem? (i := 931) (by decide +kernel)⟩
theorem lw_p37 : lw_okq (⟨"ParserProofModel", "push", "(I)V"⟩, 30) := ⟨⟨by decide +kernel, by decide +kernel⟩, List.mem_of_getElem? (i := 659) (by decide +kernel), List.mem_of_getElem? (i := 934) (by decide +kernel), List.mem_of_getElem? (i := 935) (by decide +kernel)⟩
theorem lw_p38 : lw_okq (⟨"ParserProofModel", "reduceBy", "(I)I"⟩, 30) := ⟨⟨by decide +kernel, by decide +kernel⟩, List.mem_of_getElem? (i := 659) (by decide +kernel), List.mem_of_getElem? (i := 938) (by decide +kernel), List.mem_of_getElem? (i := 939) (by decide +kernel)⟩
def lw_privs_3 : List (MethodName × Nat) := [(⟨"ParserProofModel", "isBad", "(IIIII)Z"⟩, 30), (⟨"ParserProofModel", "isAnswered", "(IIII)Z"⟩, 30), (⟨"ParserProofModel", "advance", "()I"⟩, 30), (⟨"ParserProofModel", "shift", "(I)I"⟩, 30), (⟨"ParserProofModel", "create", "(IIII)V"⟩, 30), (⟨"ParserProofModel", "push", "(I)V"⟩, 30), (⟨"ParserProofModel", "reduceBy", "(I)I"⟩, 30)]
theorem lw_r3 : ∀ q ∈ lw_privs_3, lw_okq q := List.forall_mem_cons.mpr ⟨lw_p32, List.forall_mem_cons.mpr ⟨lw_p33, List.forall_mem_cons.mpr ⟨lw_p34, List.forall_mem_cons.mpr ⟨lw_p35, List.forall_mem_cons.mpr ⟨lw_p36, List.forall_mem_cons.mpr ⟨lw_p37, List.forall_mem_cons.mpr ⟨lw_p38, fun _ h => absurd h List.not_mem_nil⟩⟩⟩⟩⟩⟩⟩
def lw_privs : List (MethodName × Nat) := lw_privs_1 ++ (lw_privs_2 ++ (lw_privs_3))
def lw_tbl : List Cond := k2_sels lw_privs ++ tables_1
theorem lw_privs_ok : ∀ q ∈ lw_privs, lw_okq q := by
  show ∀ q ∈ lw_privs_1 ++ (lw_privs_2 ++ (lw_privs_3)), lw_okq q
  exact List.forall_mem_append.mpr ⟨lw_r1, List.forall_mem_append.mpr ⟨lw_r2, lw_r3⟩⟩
end
section
/-! ===== BEGIN words of one list among another's, by their places ===== -/
theorem goodIn_r {big : List Cond} (ws : List Cond) (ps : List Nat) (hp : ws = ps.filterMap (fun i => big[i]?)) (h : ws.all goodWord = true) : GoodIn big ws := by
  intro w hw
  have h1 := List.all_eq_true.mp h w hw
  rw [hp] at hw
  obtain ⟨i, -, hi⟩ := List.mem_filterMap.mp hw
  have hm : w ∈ big := by first | exact List.mem_of_getElem? hi | exact List.getElem?_mem hi
  exact ⟨hm, good_of_word h1⟩
theorem goodIn_app {big a b : List Cond} (ha : GoodIn big a) (hb : GoodIn big b) : GoodIn big (a ++ b) := fun w h => (List.mem_append.mp h).elim (ha w) (hb w)
theorem goodIn_ca {big a b : List Cond} {c : Cond} (ha : GoodIn big (c :: a)) (hb : GoodIn big b) : GoodIn big (c :: (a ++ b)) := fun w h => (List.mem_cons.mp h).elim (fun e => ha w (List.mem_cons.mpr (Or.inl e))) (fun h => (List.mem_append.mp h).elim (fun h => ha w (List.mem_cons.mpr (Or.inr h))) (hb w))
theorem goodIn_sub {big ws : List Cond} (hm : ∀ w ∈ ws, w ∈ big) (h : ws.all goodWord = true) : GoodIn big ws := fun w hw => ⟨hm w hw, good_of_word (List.all_eq_true.mp h w hw)⟩
/-! ===== END ===== -/

/-! ===== BEGIN exceptions that leave a method, and their catching by the caller (launches without stack traces) ===== -/
section VXA
/-! The laws vx_back, vx_callV, vx_callS, vx_callSW, vx_throw0, vx_throwS follow proofs of the library, with one case more: JvmDerived/Free/Laws.lean (Back.of_free), Shelf42/LK1.lean (callV, callS), Shelf/KitTraced.lean (throwNew0V, throwNewS). -/
/-- where a method has thrown q: the class by its name, the cell, what was written, the world -/
def vx_T (XC : String → State → State → Prop) (st : State) (q : Addr) (t : State) (mc ms : Nat) (free : Addr → Prop) : Prop :=
  ∃ (E : String) (ce : Cell) (L : List Loc), XC E st t ∧ t.heap[q]? = some ce ∧ ce.vm = .none ∧ st.vm.findClass E = some ce.cls ∧ st.WarmedH t.vm ∧ st.sameButNew ({ t with vm := st.vm } : State) L mc ms ∧ ∀ z ∈ L, free z.base
def vx_Q (Qc : Array Value → State → Outcome → State → Prop) (XC : String → State → State → Prop) (mc ms : Nat) (free : Addr → Prop) : Array Value → State → Outcome → State → Prop := fun a st o t =>
  (Qc a st o t ∧ ∃ L, FrameEnd st o t L mc ms ∧ ∀ q ∈ L, free q.base) ∨ ∃ q, o = .threw q ∧ vx_T XC st q t mc ms free
/-- a callee that returns or throws -/
def vx_Met (l : Launch) (y : MethodName) (ws : List Cond) (rm : Room) (Pc : Array Value → State → Prop) (Qc : Array Value → State → Outcome → State → Prop) (XC : String → State → State → Prop) (mc ms : Nat) (free : Addr → Prop) : Prop :=
  MetFree l y (headSpec ws rm) Pc (fun _ _ _ _ _ => True) (vx_Q Qc XC mc ms free)
def vx_Post (XC : String → State → State → Prop) (mc ms : Nat) (free : Addr → Prop) : Pt → Array Value → Addr → Pt → Prop := fun A a q B =>
  ∃ (g : JFrame) (mk : MethodId) (t : State) (L : List Loc) (E : String) (ce : Cell), B.U.heap = t.heap ∧ B.U.vm = t.vm ∧ XC E (A.U.calling g mk a) t ∧ t.heap[q]? = some ce ∧ ce.vm = .none ∧ A.U.vm.findClass E = some ce.cls ∧ B.locs = A.locs ++ L ∧ (∀ z ∈ L, free z.base) ∧ B.cells = A.cells + mc ∧ B.slots = A.slots + ms
def vx_Back (l : Launch) (R : Room) (p : Program) (e : Env) (below : List Frame) (s : State) (sargs : Array Value) (y : MethodName) (len W9 : Nat)
    (Pre : Pt → Array Value → Prop) (Post : Pt → Array Value → Option Value → Pt → Prop) (PostX : Pt → Array Value → Addr → Pt → Prop) : Prop :=
  ∀ (m : MethodId) (meth : Method) (c : Code) (A : Pt) (g : JFrame) (ig : Instr) (mk : MethodId) (a : Array Value),
    Stand p l e R s m sargs below meth c A.U A.locs A.cells A.slots → g.method = m → g.locals.size = c.maxLocals → decode c.code g.pc = .ok (ig, len) →
    2 * g.monitorRoom + (g.stack.map fun v => v.category).sum ≤ W9 → A.U.methodNamed? y = some mk → Pre A a →
    (∃ (v : Option Value) (B : Pt), Stand p l e R s m sargs below meth c B.U B.locs B.cells B.slots ∧ Post A a v B ∧
      Steps p.tables e below (doInvoke e (A.U.setTop g) [] mk a).1 (B.U.setTop { g with pc := g.pc + len, stack := v.toList ++ g.stack })) ∨
    (∃ (q : Addr) (B : Pt), Stand p l e R s m sargs below meth c B.U B.locs B.cells B.slots ∧ PostX A a q B ∧
      Steps p.tables e below (doInvoke e (A.U.setTop g) [] mk a).1 ((B.U.setTop g).pushFrame (.throwing q)))
section Payer
variable {l : Launch} {R : Room} {p : Program} {e : Env} {below : List Frame} {s : State} {sargs : Array Value} {y : MethodName} {len W9 : Nat}
theorem vx_back {ws : List Cond} {rm : Room} {Pc : Array Value → State → Prop} {Qc : Array Value → State → Outcome → State → Prop} {XC : String → State → State → Prop} {mc ms : Nat} {free : Addr → Prop} {bytes : ByteArray} {maxL : Nat} {ret : Option FieldType}
    (hM : vx_Met l y ws rm Pc Qc XC mc ms free) (hblind : FrameBlind Pc) (hrc : rm.cells = mc) (hrs : rm.slots = ms)
    (hframes : rm.frames + 1 ≤ R.frames) (hlocals : W9 + (maxL + 11) + rm.locals ≤ R.locals)
    (hws : ∀ w ∈ ws, ∀ a' U, s.WarmedH U.vm → w.before a' U = true) (hcode : Cond.code y bytes maxL ret ∈ ws) (hinit : ∀ a' U, s.WarmedH U.vm → (Cond.initialized y.cls).before a' U = true) :
    vx_Back l R p e below s sargs y len W9 (PreOf R mc ms Pc) (PostOf Qc mc ms free) (vx_Post XC mc ms free) := by
  intro m meth c A g ig mk a X hg hsize hdg hW hn hp
  have h1 : (headSpec ws rm).pre.before a A.U = true := atoms_intro fun w hw => hws w hw _ _ X.warmed
  have h2 : (Cond.code y bytes maxL ret).before a A.U = true := hws _ hcode _ _ X.warmed
  have h3 : (Cond.initialized y.cls).before a A.U = true := hinit _ _ X.warmed
  have h4 : A.cells + (headSpec ws rm).room.cells ≤ R.cells := by rw [show (headSpec ws rm).room.cells = mc from hrc]; exact hp.1
  have h5 : A.slots + (headSpec ws rm).room.slots ≤ R.slots := by rw [show (headSpec ws rm).room.slots = ms from hrs]; exact hp.2.1
  have hPc : Pc a (A.U.calling g mk a) := hblind _ _ _ _ hp.2.2
  obtain ⟨U, Ls, c0, s0⟩ := A
  dsimp only [Pt.U, Pt.locs, Pt.cells, Pt.slots] at h1 h2 h3 h4 h5 X hn hPc ⊢
  obtain ⟨methY, cY, hmY, hcY, -, hlY, -, -, -, -⟩ := Cond.code_spec hn h2
  obtain ⟨kY, hkY, -⟩ := className_of_methodNamed hn
  have hinitY : kY.init = .initialized := Cond.initialized_spec (findClass_of_methodNamed hn) hkY h3
  have h : At U g.method c below := by rw [hg]; exact X.here
  have hlocals9 : W9 + (maxL + 11) + (headSpec ws rm).room.locals ≤ R.locals := hlocals
  have happ : (headSpec ws rm).appliesLoose y e.platform (U.calling g mk a) = true :=
    Spec.appliesLoose_calling (g := g) h hdg hn hkY hinitY
      (X.room_calling (g := g) (R' := (headSpec ws rm).room) hsize hmY hcY hframes (by rw [hlY]; omega) h4 h5) h1
  obtain ⟨mid, hmid⟩ := h.above
  have hfr : (U.setTop g).frames = (.java g :: mid) ++ below := by rw [State.frames_setTop' g h.top, hmid]; rfl
  obtain ⟨o, s₂, hsteps, -, hend, hq⟩ := Steps.callFree hM p X.admits X.cas X.clock (acts := []) hfr happ hPc trivial
  have hq' : vx_Q Qc XC mc ms free a (U.calling g mk a) o s₂ := hq
  rw [State.frames_setTop' g h.top] at hend
  obtain ⟨g₀, hg0⟩ := Option.isSome_iff_exists.mp h.top
  obtain ⟨r, hr⟩ := State.topJava?_eq_some.mp hg0
  have hr' : (({ U with heap := s₂.heap, slotsUsed := s₂.slotsUsed } : State).setVm s₂.vm).frames = .java g₀ :: r := hr
  rcases hq' with ⟨hqc, L, hfe, hL⟩ | ⟨q, rfl, E, ce, L, hx, hce, hcv, hcl, hW₂, hsm, hL⟩
  · obtain ⟨⟨v, rfl⟩, hW₂, e2, q2, q3, q4, q5, q6⟩ := id hfe
    have e3 : s₂ = ({ (U.calling g mk a).setFrames s₂.frames with heap := s₂.heap, slotsUsed := s₂.slotsUsed } : State).setVm s₂.vm := by
      have : s₂ = ({ s₂ with vm := (U.calling g mk a).vm } : State).setVm s₂.vm := rfl
      rw [e2] at this
      exact this
    obtain ⟨c₂, i₂, len₂, hc₂, hd₂, hf₂⟩ := hend
    have hW' : U.WarmedH s₂.vm := hW₂
    have hcc : c₂ = c := by
      have h1 : s₂.code? g.method = U.code? g.method := by
        rw [State.code?_eq, State.code?_eq, hW'.alike.method?]
      exact Option.some.inj (hc₂.symm.trans (h1.trans h.code))
    subst hcc
    have hlen : len₂ = len := by rw [hdg] at hd₂; cases hd₂; rfl
    subst hlen
    have hs₂ : s₂ = (({ U with heap := s₂.heap, slotsUsed := s₂.slotsUsed } : State).setVm s₂.vm).setTop { g with pc := g.pc + len₂, stack := v.toList ++ g.stack } := by
      refine e3.trans ?_
      rw [hf₂, State.calling_eq h.top, State.setFrames_setFrames, State.setTop_of_frames _ hr', hr]
      rfl
    have hsame : U.sameButNew ({ U with heap := s₂.heap, slotsUsed := s₂.slotsUsed } : State) L mc ms := by
      refine ⟨?_, q2, q3, q4, q5, q6⟩
      obtain ⟨t, ht, -⟩ := State.frames_cons hr
      show ({ U with heap := s₂.heap, slotsUsed := s₂.slotsUsed } : State) = { U.setFrames U.frames with heap := s₂.heap, slotsUsed := s₂.slotsUsed }
      rw [State.setFrames_self ht]
    subst hg
    refine Or.inl ⟨v, ⟨(({ U with heap := s₂.heap, slotsUsed := s₂.slotsUsed } : State).setVm s₂.vm), Ls ++ L, c0 + mc, s0 + ms⟩,
      ⟨X.admits, X.cas, X.clock, X.frames, X.room, X.hears, X.method, X.code, (X.here.setHeapUsed s₂.heap s₂.slotsUsed).setVm hW'.alike, X.tail, State.WarmedH.trans X.warmed hW', X.limits, X.bytes, X.same.trans (hsame.setVm s.vm)⟩,
      ⟨g, mk, s₂, L, rfl, rfl, hqc, rfl, hL, rfl, rfl⟩, ?_⟩
    show Steps p.tables e below _ ((({ U with heap := s₂.heap, slotsUsed := s₂.slotsUsed } : State).setVm s₂.vm).setTop { g with pc := g.pc + len₂, stack := v.toList ++ g.stack })
    rw [← hs₂]
    exact hsteps
  · obtain ⟨e2, q2, q3, q4, q5, q6⟩ := id hsm
    have e3 : s₂ = ({ (U.calling g mk a).setFrames s₂.frames with heap := s₂.heap, slotsUsed := s₂.slotsUsed } : State).setVm s₂.vm := by
      have : s₂ = ({ s₂ with vm := (U.calling g mk a).vm } : State).setVm s₂.vm := rfl
      rw [e2] at this
      exact this
    have hf₂ : s₂.frames = .throwing q :: .java g :: U.frames.tail := hend
    have hW' : U.WarmedH s₂.vm := hW₂
    have hs₂ : s₂ = ((({ U with heap := s₂.heap, slotsUsed := s₂.slotsUsed } : State).setVm s₂.vm).setTop g).pushFrame (.throwing q) := by
      refine e3.trans ?_
      rw [hf₂, State.calling_eq h.top, State.setFrames_setFrames, State.pushFrame, State.frames_setTop _ hr', State.setTop_of_frames _ hr', State.setFrames_setFrames, hr]
      rfl
    have hsame : U.sameButNew ({ U with heap := s₂.heap, slotsUsed := s₂.slotsUsed } : State) L mc ms := by
      refine ⟨?_, q2, q3, q4, q5, q6⟩
      obtain ⟨t, ht, -⟩ := State.frames_cons hr
      show ({ U with heap := s₂.heap, slotsUsed := s₂.slotsUsed } : State) = { U.setFrames U.frames with heap := s₂.heap, slotsUsed := s₂.slotsUsed }
      rw [State.setFrames_self ht]
    subst hg
    refine Or.inr ⟨q, ⟨(({ U with heap := s₂.heap, slotsUsed := s₂.slotsUsed } : State).setVm s₂.vm), Ls ++ L, c0 + mc, s0 + ms⟩,
      ⟨X.admits, X.cas, X.clock, X.frames, X.room, X.hears, X.method, X.code, (X.here.setHeapUsed s₂.heap s₂.slotsUsed).setVm hW'.alike, X.tail, State.WarmedH.trans X.warmed hW', X.limits, X.bytes, X.same.trans (hsame.setVm s.vm)⟩,
      ⟨g, mk, s₂, L, E, ce, rfl, rfl, hx, hce, hcv, hcl, rfl, hL, rfl, rfl⟩, ?_⟩
    show Steps p.tables e below _ (((({ U with heap := s₂.heap, slotsUsed := s₂.slotsUsed } : State).setVm s₂.vm).setTop g).pushFrame (.throwing q))
    rw [← hs₂]
    exact hsteps
end Payer
section Calls
variable {p : Program} {l : Launch} {e : Env} {R : Room} {s : State} {m : MethodId} {args : Array Value} {below : List Frame} {meth : Method} {c : Code} {T : State} {locs : List Loc} {cells slots : Nat}
theorem vx_callV (X : Stand p l e R s m args below meth c T locs cells slots) (hexec : p.tables.exec = Jvm.exec) {own C : String} {index : Nat} {y : MethodName} {bytes : ByteArray} {maxL : Nat} {ret : Option FieldType}
    (hown : s.vm.findClass own = some m.cls) (hlink : (Cond.methodLink own index y).before args s = true) (hinst : (Cond.instanceMethod y).before args s = true) (hsel : (Cond.selects C y y).before args s = true)
    (hcode : (Cond.code y bytes maxL ret).before args s = true) (hy : y.cls ≠ "java/lang/invoke/MethodHandle" ∧ y.cls ≠ "java/lang/invoke/VarHandle")
    {W9 : Nat} {Pre : Pt → Array Value → Prop} {Post : Pt → Array Value → Option Value → Pt → Prop} {PostX : Pt → Array Value → Addr → Pt → Prop} (hK : vx_Back l R p e below s args y 3 W9 Pre Post PostX)
    {b : Addr} {cellB : Cell} (hcell : T.heap[b]? = some cellB) (hobj : cellB.vm.isStatics = false) (hcls : s.vm.findClass C = some cellB.cls)
    {g : JFrame} (hg : g.method = m) (hsize : g.locals.size = c.maxLocals) {argsL rest : List Value} (hlen : ∀ sig, parseMethodDescriptor y.desc = some sig → argsL.length = sig.parameters.length)
    (hstack : g.stack = argsL.reverse ++ .ref b :: rest) (hW : 2 * g.monitorRoom + (rest.map fun v => v.category).sum ≤ W9) (hdg : decode c.code g.pc = .ok (.invokevirtual index, 3))
    (hpre : ∀ vm₁, s.WarmedH vm₁ → Pre ⟨T.setVm vm₁, locs, cells, slots⟩ (Value.ref b :: argsL).toArray) :
    (∃ (v : Option Value) (vm₁ : Vm) (B : Pt), s.WarmedH vm₁ ∧ Stand p l e R s m args below meth c B.U B.locs B.cells B.slots ∧ Post ⟨T.setVm vm₁, locs, cells, slots⟩ (Value.ref b :: argsL).toArray v B ∧
      ∀ target, Steps p.tables e below (B.U.setTop { g with pc := g.pc + 3, stack := v.toList ++ rest }) target → Steps p.tables e below (T.setTop g) target) ∨
    (∃ (q : Addr) (vm₁ : Vm) (B : Pt), s.WarmedH vm₁ ∧ Stand p l e R s m args below meth c B.U B.locs B.cells B.slots ∧ PostX ⟨T.setVm vm₁, locs, cells, slots⟩ (Value.ref b :: argsL).toArray q B ∧
      Steps p.tables e below (T.setTop g) ((B.U.setTop { g with stack := rest }).pushFrame (.throwing q))) := by
  obtain ⟨mk, methM, hnamed, hmethM, hstM, habM⟩ := Cond.instanceMethod_spec hinst
  obtain ⟨methM', cM, hmethM', -, -, -, -, -, -, hsigM⟩ := Cond.code_spec hnamed hcode
  cases hmethM.symm.trans hmethM'
  obtain ⟨c2, r2, m2, q1, q2, q3, q4, kP, hkP, hkPi⟩ := Cond.selects_spec hsel
  cases hcls.symm.trans q1
  cases (State.methodFound?_of_named hnamed hy).symm.trans q2
  cases hnamed.symm.trans q3
  have hselP : selectMethod e.platform s.vm cellB.cls mk = .method mk := by rw [Launch.admits_selectMethod X.admits]; exact q4
  obtain ⟨vm₁, X₁, hstep₁⟩ := X.invokevirtual hexec hown hlink hnamed hmethM hstM hkP hkPi hy (a := b) (cell := cellB) hcell
    (fun z h => by rw [h] at hobj; cases hobj) hselP hmethM habM hkP hkPi (g := g) hg (argsL := argsL) (rest := rest) (hlen _ hsigM) hstack hdg
  rcases hK m meth c ⟨T.setVm vm₁, locs, cells, slots⟩ { g with stack := rest } (.invokevirtual index) mk (Value.ref b :: argsL).toArray X₁ hg hsize hdg hW (X₁.named hnamed) (hpre vm₁ X₁.warmed) with ⟨v, B, X', hpost, hsteps⟩ | ⟨q, B, X', hpost, hsteps⟩
  · exact Or.inl ⟨v, vm₁, B, X₁.warmed, X', hpost, fun target h => hstep₁ _ fun acts => by rw [doInvoke_state]; exact hsteps.trans h⟩
  · exact Or.inr ⟨q, vm₁, B, X₁.warmed, X', hpost, hstep₁ _ fun acts => by rw [doInvoke_state]; exact hsteps⟩
theorem vx_callS (X : Stand p l e R s m args below meth c T locs cells slots) (hexec : p.tables.exec = Jvm.exec) {own : String} {index : Nat} {y : MethodName} {bytes : ByteArray} {maxL : Nat} {ret : Option FieldType}
    (hown : s.vm.findClass own = some m.cls) (hlink : (Cond.methodLink own index y).before args s = true) (hstat : (Cond.static y).before args s = true) (hinit : (Cond.initialized y.cls).before args s = true)
    (hcode : (Cond.code y bytes maxL ret).before args s = true) (hy : y.cls ≠ "java/lang/invoke/MethodHandle" ∧ y.cls ≠ "java/lang/invoke/VarHandle")
    {W9 : Nat} {Pre : Pt → Array Value → Prop} {Post : Pt → Array Value → Option Value → Pt → Prop} {PostX : Pt → Array Value → Addr → Pt → Prop} (hK : vx_Back l R p e below s args y 3 W9 Pre Post PostX)
    {g : JFrame} (hg : g.method = m) (hsize : g.locals.size = c.maxLocals) {argsL rest : List Value} (hlen : ∀ sig, parseMethodDescriptor y.desc = some sig → argsL.length = sig.parameters.length)
    (hstack : g.stack = argsL.reverse ++ rest) (hW : 2 * g.monitorRoom + (rest.map fun v => v.category).sum ≤ W9) (hdg : decode c.code g.pc = .ok (.invokestatic index, 3))
    (hpre : ∀ vm₁, s.WarmedH vm₁ → Pre ⟨T.setVm vm₁, locs, cells, slots⟩ argsL.toArray) :
    (∃ (v : Option Value) (vm₁ : Vm) (B : Pt), s.WarmedH vm₁ ∧ Stand p l e R s m args below meth c B.U B.locs B.cells B.slots ∧ Post ⟨T.setVm vm₁, locs, cells, slots⟩ argsL.toArray v B ∧
      ∀ target, Steps p.tables e below (B.U.setTop { g with pc := g.pc + 3, stack := v.toList ++ rest }) target → Steps p.tables e below (T.setTop g) target) ∨
    (∃ (q : Addr) (vm₁ : Vm) (B : Pt), s.WarmedH vm₁ ∧ Stand p l e R s m args below meth c B.U B.locs B.cells B.slots ∧ PostX ⟨T.setVm vm₁, locs, cells, slots⟩ argsL.toArray q B ∧
      Steps p.tables e below (T.setTop g) ((B.U.setTop { g with stack := rest }).pushFrame (.throwing q))) := by
  obtain ⟨mk, hnamed⟩ := Cond.code_named hcode
  obtain ⟨methM, cM, hmethM, -, -, -, -, -, -, hsigM⟩ := Cond.code_spec hnamed hcode
  have hstatic : methM.isStatic = true := Cond.static_spec hnamed hmethM hstat
  obtain ⟨kP, hkP, -⟩ := className_of_methodNamed hnamed
  have hinitP : kP.init = .initialized := Cond.initialized_spec (findClass_of_methodNamed hnamed) hkP hinit
  obtain ⟨vm₁, X₁, hstep₁⟩ := X.invokestatic hexec hown hlink hnamed hmethM hstatic hkP hinitP hy (g := g) hg (argsL := argsL) (rest := rest) (hlen _ hsigM) hstack hdg
  rcases hK m meth c ⟨T.setVm vm₁, locs, cells, slots⟩ { g with stack := rest } (.invokestatic index) mk argsL.toArray X₁ hg hsize hdg hW (X₁.named hnamed) (hpre vm₁ X₁.warmed) with ⟨v, B, X', hpost, hsteps⟩ | ⟨q, B, X', hpost, hsteps⟩
  · exact Or.inl ⟨v, vm₁, B, X₁.warmed, X', hpost, fun target h => hstep₁ _ fun acts => by rw [doInvoke_state]; exact hsteps.trans h⟩
  · exact Or.inr ⟨q, vm₁, B, X₁.warmed, X', hpost, hstep₁ _ fun acts => by rw [doInvoke_state]; exact hsteps⟩
end Calls
theorem vx_cls {s : State} {T : State} {vm₁ : Vm} {E : String} {k : ClassId} (hW : s.WarmedH vm₁) (h : (T.setVm vm₁).vm.findClass E = some k) : s.vm.findClass E = some k := by
  have h1 : vm₁.findClass E = some k := h
  rw [hW.alike.findClass] at h1
  exact h1
/-- the method's frame g, with q thrown over it -/
def vx_W (p : Program) (l : Launch) (e : Env) (R : Room) (s : State) (m : MethodId) (args : Array Value) (below : List Frame) (meth : Method) (c : Code) (H : Heap) (locs : List Loc) (cells slots : Nat) (Q : State → Prop) (g : JFrame) (q : Addr) : Prop :=
  ∀ T : State, T.heap = H → Stand p l e R s m args below meth c T locs cells slots → ∃ t, Steps p.tables e below ((T.setTop g).pushFrame (.throwing q)) t ∧ Q t
def vx_Run (p : Program) (l : Launch) (e : Env) (R : Room) (s : State) (m : MethodId) (args : Array Value) (below : List Frame) (meth : Method) (c : Code) (H : Heap) (locs : List Loc) (cells slots mc ms : Nat) (g : JFrame) (rest : List Value) (Qa : State → Outcome → State → Prop) (XC : String → State → State → Prop) (free : Addr → Prop) : Prop :=
  ∀ T : State, T.heap = H → Stand p l e R s m args below meth c T locs cells slots →
    (∃ (v : Option Value) (st₀ t T' : State) (L : List Loc), st₀.heap = H ∧ Stand p l e R s m args below meth c T' (locs ++ L) (cells + mc) (slots + ms) ∧ (∀ q ∈ L, free q.base) ∧ T'.heap = t.heap ∧ T'.vm = t.vm ∧ Qa st₀ (.returned v) t ∧
      Goes p e below T g T' { g with pc := g.pc + 3, stack := v.toList ++ rest }) ∨
    (∃ (q : Addr) (st₀ t T' : State) (L : List Loc) (E : String) (ce : Cell), st₀.heap = H ∧ Stand p l e R s m args below meth c T' (locs ++ L) (cells + mc) (slots + ms) ∧ (∀ z ∈ L, free z.base) ∧ T'.heap = t.heap ∧ T'.vm = t.vm ∧ XC E st₀ t ∧ t.heap[q]? = some ce ∧ ce.vm = .none ∧ s.vm.findClass E = some ce.cls ∧
      Steps p.tables e below (T.setTop g) ((T'.setTop { g with stack := rest }).pushFrame (.throwing q)))
def vx_X {S : Type} (px : S → Prop) (B : String → S → State → Prop) (A : Nat → Prop) : String → State → State → Prop := fun E st t => ∃ u : S, px u ∧ B E u t ∧ va_F A st t
section Runs
variable {p : Program} {l : Launch} {e : Env} {R : Room} {s : State} {m : MethodId} {args : Array Value} {below : List Frame} {meth : Method} {c : Code} {H : Heap} {locs : List Loc} {cells slots : Nat}
variable {y : MethodName} {bytes cc : ByteArray} {maxL nL mc ms n index : Nat} {ret : Option FieldType} {ws : List Cond} {rm : Room} {Pc : Array Value → State → Prop} {Qc : Array Value → State → Outcome → State → Prop} {XC : String → State → State → Prop} {free : Addr → Prop} {Ts : List Cond} {own C : String} {b : Addr} {As rest : List Value} {g : JFrame}
theorem vx_callBack (cb : CallB R s args own index y bytes maxL ret ws rm mc ms n) (hM : vx_Met l y ws rm Pc Qc XC mc ms free) (hbl : FrameBlind Pc) : vx_Back l R p e below s args y 3 8 (PreOf R mc ms Pc) (PostOf Qc mc ms free) (vx_Post XC mc ms free) := by
  obtain ⟨hrc, hrs, hfr, hlo, hws, hcw, -, hini, -⟩ := cb
  exact vx_back (bytes := bytes) (maxL := maxL) (ret := ret) hM hbl hrc hrs hfr hlo hws hcw (fun a' U hW => word_at hW (Or.inl (by first | rfl | simp [Cond.onTables, Cond.keeps, Cond.steady])) hini)
theorem vx_runV (S : CallFix p m c cc nL s args Ts own) (hM : vx_Met l y ws rm Pc Qc XC mc ms free) (cw : CallW R s args own C index y bytes maxL ret ws rm mc ms n) (hp : PreV s H C b Pc As)
    (hg : g.method = m) (hn : As.length = n) (hsize : g.locals.size = nL) (hstack : g.stack = As.reverse ++ .ref b :: rest) (hW : 2 * g.monitorRoom + (rest.map fun v => v.category).sum ≤ 8) (hdg : decode cc g.pc = .ok (.invokevirtual index, 3)) (hf : cells + mc ≤ R.cells ∧ slots + ms ≤ R.slots) :
    vx_Run p l e R s m args below meth c H locs cells slots mc ms g rest (Qc (Value.ref b :: As).toArray) XC free := by
  have hK : vx_Back l R p e below s args y 3 8 (PreOf R mc ms Pc) (PostOf Qc mc ms free) (vx_Post XC mc ms free) := vx_callBack cw.1 hM hp.1
  obtain ⟨⟨-, -, -, -, -, -, hcode, -, hy, hlen, hl⟩, hin, hse⟩ := cw
  obtain ⟨hx, hb, hml, ho, -⟩ := S
  obtain ⟨-, ⟨cellB, hcB, hoB, hclB⟩, hPc⟩ := hp
  intro T hT X
  rcases vx_callV X hx (C := C) (bytes := bytes) (maxL := maxL) (ret := ret) ho hl hin hse hcode hy hK (by rw [hT]; exact hcB) hoB hclB hg (hsize.trans hml.symm) (argsL := As) (rest := rest) (fun sig h => hn.trans (hlen sig h)) hstack hW (by rw [hb]; exact hdg)
    (fun vm₁ hW₁ => ⟨hf.1, hf.2, hPc (T.setVm vm₁) hT hW₁⟩) with ⟨v, vm₁, ⟨U', l2, c2, s2⟩, hW₁, X', ⟨g', mk, t, L, e1, e2, hq, h1, hL, h2, h3⟩, st⟩ | ⟨q, vm₁, ⟨U', l2, c2, s2⟩, hW₁, X', ⟨g', mk, t, L, E, ce, e1, e2, hq, hce, hcv, hcl, h1, hL, h2, h3⟩, st⟩
  · dsimp only [Pt.U, Pt.locs, Pt.cells, Pt.slots] at X' e1 e2 h1 h2 h3 st
    subst h1; subst h2; subst h3
    exact Or.inl ⟨v, (T.setVm vm₁).calling g' mk (Value.ref b :: As).toArray, t, U', L, hT, X', hL, e1, e2, hq, st⟩
  · dsimp only [Pt.U, Pt.locs, Pt.cells, Pt.slots] at X' e1 e2 h1 h2 h3 st hcl
    subst h1; subst h2; subst h3
    exact Or.inr ⟨q, (T.setVm vm₁).calling g' mk (Value.ref b :: As).toArray, t, U', L, E, ce, hT, X', hL, e1, e2, hq, hce, hcv, vx_cls hW₁ hcl, st⟩
theorem vx_runS (S : CallFix p m c cc nL s args Ts own) (hM : vx_Met l y ws rm Pc Qc XC mc ms free) (cw : CallB R s args own index y bytes maxL ret ws rm mc ms n ∧ (Cond.static y).before args s = true) (hp : PreS s H Pc As)
    (hg : g.method = m) (hn : As.length = n) (hsize : g.locals.size = nL) (hstack : g.stack = As.reverse ++ rest) (hW : 2 * g.monitorRoom + (rest.map fun v => v.category).sum ≤ 8) (hdg : decode cc g.pc = .ok (.invokestatic index, 3)) (hf : cells + mc ≤ R.cells ∧ slots + ms ≤ R.slots) :
    vx_Run p l e R s m args below meth c H locs cells slots mc ms g rest (Qc As.toArray) XC free := by
  have hK : vx_Back l R p e below s args y 3 8 (PreOf R mc ms Pc) (PostOf Qc mc ms free) (vx_Post XC mc ms free) := vx_callBack cw.1 hM hp.1
  obtain ⟨⟨-, -, -, -, -, -, hcode, hini, hy, hlen, hl⟩, hstt⟩ := cw
  obtain ⟨hx, hb, hml, ho, -⟩ := S
  intro T hT X
  rcases vx_callS X hx (bytes := bytes) (maxL := maxL) (ret := ret) ho hl hstt hini hcode hy hK hg (hsize.trans hml.symm) (argsL := As) (rest := rest) (fun sig h => hn.trans (hlen sig h)) hstack hW (by rw [hb]; exact hdg)
    (fun vm₁ hW₁ => ⟨hf.1, hf.2, hp.2 (T.setVm vm₁) hT hW₁⟩) with ⟨v, vm₁, ⟨U', l2, c2, s2⟩, hW₁, X', ⟨g', mk, t, L, e1, e2, hq, h1, hL, h2, h3⟩, st⟩ | ⟨q, vm₁, ⟨U', l2, c2, s2⟩, hW₁, X', ⟨g', mk, t, L, E, ce, e1, e2, hq, hce, hcv, hcl, h1, hL, h2, h3⟩, st⟩
  · dsimp only [Pt.U, Pt.locs, Pt.cells, Pt.slots] at X' e1 e2 h1 h2 h3 st
    subst h1; subst h2; subst h3
    exact Or.inl ⟨v, (T.setVm vm₁).calling g' mk As.toArray, t, U', L, hT, X', hL, e1, e2, hq, st⟩
  · dsimp only [Pt.U, Pt.locs, Pt.cells, Pt.slots] at X' e1 e2 h1 h2 h3 st hcl
    subst h1; subst h2; subst h3
    exact Or.inr ⟨q, (T.setVm vm₁).calling g' mk As.toArray, t, U', L, E, ce, hT, X', hL, e1, e2, hq, hce, hcv, vx_cls hW₁ hcl, st⟩
end Runs
section Rows
variable {p : Program} {l : Launch} {e : Env} {R : Room} {s : State} {m : MethodId} {args : Array Value} {below : List Frame} {meth : Method} {c : Code} {H : Heap} {locs : List Loc} {cells slots : Nat} {Q : State → Prop}
variable {mc ms : Nat} {free : Addr → Prop} {A0 A1 : Nat → Prop} {H0 : Heap} {a : Array Value} {pc : Nat} {ls : Array Slot} {st0 rest : List Value}
theorem vx_keep {st₀ t T' : State} {L : List Loc} (h0 : st₀.heap = H) (e1 : T'.heap = t.heap) (hS : va_S A0 H0 H locs) (hA : ∀ q, q < H.size → A1 q → A0 q) (hf : ∀ q, free q → A0 q) (hL : ∀ q ∈ L, free q.base) (hF : va_F A1 st₀ t) :
    H.size ≤ T'.heap.size ∧ (∀ q : Nat, q < H.size → ¬ A1 q → T'.heap[q]? = H[q]?) ∧ va_S A0 H0 T'.heap (locs ++ L) := by
  obtain ⟨hz, hk⟩ := hF
  rw [h0] at hz hk
  exact ⟨by rw [e1]; exact hz, fun q h1 h2 => by rw [e1]; exact hk q h1 h2,
    ⟨Nat.le_trans hS.1 (by rw [e1]; exact hz), fun q h1 h2 => by rw [e1, hk q (Nat.lt_of_lt_of_le h1 hS.1) (fun z => h2 (hA q (Nat.lt_of_lt_of_le h1 hS.1) z))]; exact hS.2.1 q h1 h2, fun q hq => by
      rcases List.mem_append.mp hq with h | h
      · exact hS.2.2 q h
      · exact hf _ (hL q h)⟩⟩
theorem vx_calli {S SX : Type} {post : Int32 → S → Prop} {px : SX → Prop} {B : S → State → Prop} {BX : String → SX → State → Prop} {AX : Nat → Prop} (hr : vx_Run p l e R s m args below meth c H locs cells slots mc ms (F0 m pc ls st0) rest (va_Qi post B A1 a) (vx_X px BX AX) free) (hS : va_S A0 H0 H locs) (hA : ∀ q, q < H.size → A1 q → A0 q) (hf : ∀ q, free q → A0 q) (hAX : ∀ q, q < H.size → AX q → A0 q)
    (kx : ∀ (E : String) (ce : Cell) (q9 : Addr) (u : SX) (t : State) (H1 : Heap) (locs1 : List Loc), t.heap = H1 → s.vm.Alike t.vm → px u → BX E u t → H.size ≤ H1.size → (∀ q : Nat, q < H.size → ¬ AX q → H1[q]? = H[q]?) → va_S A0 H0 H1 locs1 → H1[q9]? = some ce → ce.vm = .none → s.vm.findClass E = some ce.cls → vx_W p l e R s m args below meth c H1 locs1 (cells + mc) (slots + ms) Q (F0 m pc ls rest) q9)
    (kk : ∀ (r : Int32) (u : S) (t : State) (H1 : Heap) (locs1 : List Loc), t.heap = H1 → s.vm.Alike t.vm → post r u → B u t → H.size ≤ H1.size → (∀ q : Nat, q < H.size → ¬ A1 q → H1[q]? = H[q]?) → va_S A0 H0 H1 locs1 → W p l e R s m args below meth c H1 locs1 (cells + mc) (slots + ms) Q (F0 m (pc + 3) ls (.int r :: rest))) : W p l e R s m args below meth c H locs cells slots Q (F0 m pc ls st0) := by
  intro T hT X
  rcases hr T hT X with ⟨v, st₀, t, T', L, h0, X', hL, e1, e2, ⟨⟨r, u, hv, hp, hb⟩, hF⟩, st⟩ | ⟨q, st₀, t, T', L, E, ce, h0, X', hL, e1, e2, ⟨u, hp, hb, hF⟩, hce, hcv, hcl, st⟩
  · cases hv
    obtain ⟨k1, k2, k3⟩ := vx_keep h0 e1 hS hA hf hL hF
    obtain ⟨t2, a1, b1⟩ := kk r u t T'.heap (locs ++ L) e1.symm (by rw [← e2]; exact X'.warmed.alike) hp hb k1 k2 k3 T' rfl X'
    exact ⟨t2, st t2 a1, b1⟩
  · obtain ⟨k1, k2, k3⟩ := vx_keep h0 e1 hS hAX hf hL hF
    obtain ⟨t2, a1, b1⟩ := kx E ce q u t T'.heap (locs ++ L) e1.symm (by rw [← e2]; exact X'.warmed.alike) hp hb k1 k2 k3 (by rw [e1]; exact hce) hcv hcl T' rfl X'
    exact ⟨t2, st.trans a1, b1⟩
theorem vx_calll {S SX : Type} {post : Int64 → S → Prop} {px : SX → Prop} {B : S → State → Prop} {BX : String → SX → State → Prop} {AX : Nat → Prop} (hr : vx_Run p l e R s m args below meth c H locs cells slots mc ms (F0 m pc ls st0) rest (va_Ql post B A1 a) (vx_X px BX AX) free) (hS : va_S A0 H0 H locs) (hA : ∀ q, q < H.size → A1 q → A0 q) (hf : ∀ q, free q → A0 q) (hAX : ∀ q, q < H.size → AX q → A0 q)
    (kx : ∀ (E : String) (ce : Cell) (q9 : Addr) (u : SX) (t : State) (H1 : Heap) (locs1 : List Loc), t.heap = H1 → s.vm.Alike t.vm → px u → BX E u t → H.size ≤ H1.size → (∀ q : Nat, q < H.size → ¬ AX q → H1[q]? = H[q]?) → va_S A0 H0 H1 locs1 → H1[q9]? = some ce → ce.vm = .none → s.vm.findClass E = some ce.cls → vx_W p l e R s m args below meth c H1 locs1 (cells + mc) (slots + ms) Q (F0 m pc ls rest) q9)
    (kk : ∀ (r : Int64) (u : S) (t : State) (H1 : Heap) (locs1 : List Loc), t.heap = H1 → s.vm.Alike t.vm → post r u → B u t → H.size ≤ H1.size → (∀ q : Nat, q < H.size → ¬ A1 q → H1[q]? = H[q]?) → va_S A0 H0 H1 locs1 → W p l e R s m args below meth c H1 locs1 (cells + mc) (slots + ms) Q (F0 m (pc + 3) ls (.long r :: rest))) : W p l e R s m args below meth c H locs cells slots Q (F0 m pc ls st0) := by
  intro T hT X
  rcases hr T hT X with ⟨v, st₀, t, T', L, h0, X', hL, e1, e2, ⟨⟨r, u, hv, hp, hb⟩, hF⟩, st⟩ | ⟨q, st₀, t, T', L, E, ce, h0, X', hL, e1, e2, ⟨u, hp, hb, hF⟩, hce, hcv, hcl, st⟩
  · cases hv
    obtain ⟨k1, k2, k3⟩ := vx_keep h0 e1 hS hA hf hL hF
    obtain ⟨t2, a1, b1⟩ := kk r u t T'.heap (locs ++ L) e1.symm (by rw [← e2]; exact X'.warmed.alike) hp hb k1 k2 k3 T' rfl X'
    exact ⟨t2, st t2 a1, b1⟩
  · obtain ⟨k1, k2, k3⟩ := vx_keep h0 e1 hS hAX hf hL hF
    obtain ⟨t2, a1, b1⟩ := kx E ce q u t T'.heap (locs ++ L) e1.symm (by rw [← e2]; exact X'.warmed.alike) hp hb k1 k2 k3 (by rw [e1]; exact hce) hcv hcl T' rfl X'
    exact ⟨t2, st.trans a1, b1⟩
theorem vx_callf {S SX : Type} {post : UInt32 → S → Prop} {px : SX → Prop} {B : S → State → Prop} {BX : String → SX → State → Prop} {AX : Nat → Prop} (hr : vx_Run p l e R s m args below meth c H locs cells slots mc ms (F0 m pc ls st0) rest (va_Qf post B A1 a) (vx_X px BX AX) free) (hS : va_S A0 H0 H locs) (hA : ∀ q, q < H.size → A1 q → A0 q) (hf : ∀ q, free q → A0 q) (hAX : ∀ q, q < H.size → AX q → A0 q)
    (kx : ∀ (E : String) (ce : Cell) (q9 : Addr) (u : SX) (t : State) (H1 : Heap) (locs1 : List Loc), t.heap = H1 → s.vm.Alike t.vm → px u → BX E u t → H.size ≤ H1.size → (∀ q : Nat, q < H.size → ¬ AX q → H1[q]? = H[q]?) → va_S A0 H0 H1 locs1 → H1[q9]? = some ce → ce.vm = .none → s.vm.findClass E = some ce.cls → vx_W p l e R s m args below meth c H1 locs1 (cells + mc) (slots + ms) Q (F0 m pc ls rest) q9)
    (kk : ∀ (r : UInt32) (u : S) (t : State) (H1 : Heap) (locs1 : List Loc), t.heap = H1 → s.vm.Alike t.vm → post r u → B u t → H.size ≤ H1.size → (∀ q : Nat, q < H.size → ¬ A1 q → H1[q]? = H[q]?) → va_S A0 H0 H1 locs1 → W p l e R s m args below meth c H1 locs1 (cells + mc) (slots + ms) Q (F0 m (pc + 3) ls (.float r :: rest))) : W p l e R s m args below meth c H locs cells slots Q (F0 m pc ls st0) := by
  intro T hT X
  rcases hr T hT X with ⟨v, st₀, t, T', L, h0, X', hL, e1, e2, ⟨⟨r, u, hv, hp, hb⟩, hF⟩, st⟩ | ⟨q, st₀, t, T', L, E, ce, h0, X', hL, e1, e2, ⟨u, hp, hb, hF⟩, hce, hcv, hcl, st⟩
  · cases hv
    obtain ⟨k1, k2, k3⟩ := vx_keep h0 e1 hS hA hf hL hF
    obtain ⟨t2, a1, b1⟩ := kk r u t T'.heap (locs ++ L) e1.symm (by rw [← e2]; exact X'.warmed.alike) hp hb k1 k2 k3 T' rfl X'
    exact ⟨t2, st t2 a1, b1⟩
  · obtain ⟨k1, k2, k3⟩ := vx_keep h0 e1 hS hAX hf hL hF
    obtain ⟨t2, a1, b1⟩ := kx E ce q u t T'.heap (locs ++ L) e1.symm (by rw [← e2]; exact X'.warmed.alike) hp hb k1 k2 k3 (by rw [e1]; exact hce) hcv hcl T' rfl X'
    exact ⟨t2, st.trans a1, b1⟩
theorem vx_calld {S SX : Type} {post : UInt64 → S → Prop} {px : SX → Prop} {B : S → State → Prop} {BX : String → SX → State → Prop} {AX : Nat → Prop} (hr : vx_Run p l e R s m args below meth c H locs cells slots mc ms (F0 m pc ls st0) rest (va_Qd post B A1 a) (vx_X px BX AX) free) (hS : va_S A0 H0 H locs) (hA : ∀ q, q < H.size → A1 q → A0 q) (hf : ∀ q, free q → A0 q) (hAX : ∀ q, q < H.size → AX q → A0 q)
    (kx : ∀ (E : String) (ce : Cell) (q9 : Addr) (u : SX) (t : State) (H1 : Heap) (locs1 : List Loc), t.heap = H1 → s.vm.Alike t.vm → px u → BX E u t → H.size ≤ H1.size → (∀ q : Nat, q < H.size → ¬ AX q → H1[q]? = H[q]?) → va_S A0 H0 H1 locs1 → H1[q9]? = some ce → ce.vm = .none → s.vm.findClass E = some ce.cls → vx_W p l e R s m args below meth c H1 locs1 (cells + mc) (slots + ms) Q (F0 m pc ls rest) q9)
    (kk : ∀ (r : UInt64) (u : S) (t : State) (H1 : Heap) (locs1 : List Loc), t.heap = H1 → s.vm.Alike t.vm → post r u → B u t → H.size ≤ H1.size → (∀ q : Nat, q < H.size → ¬ A1 q → H1[q]? = H[q]?) → va_S A0 H0 H1 locs1 → W p l e R s m args below meth c H1 locs1 (cells + mc) (slots + ms) Q (F0 m (pc + 3) ls (.double r :: rest))) : W p l e R s m args below meth c H locs cells slots Q (F0 m pc ls st0) := by
  intro T hT X
  rcases hr T hT X with ⟨v, st₀, t, T', L, h0, X', hL, e1, e2, ⟨⟨r, u, hv, hp, hb⟩, hF⟩, st⟩ | ⟨q, st₀, t, T', L, E, ce, h0, X', hL, e1, e2, ⟨u, hp, hb, hF⟩, hce, hcv, hcl, st⟩
  · cases hv
    obtain ⟨k1, k2, k3⟩ := vx_keep h0 e1 hS hA hf hL hF
    obtain ⟨t2, a1, b1⟩ := kk r u t T'.heap (locs ++ L) e1.symm (by rw [← e2]; exact X'.warmed.alike) hp hb k1 k2 k3 T' rfl X'
    exact ⟨t2, st t2 a1, b1⟩
  · obtain ⟨k1, k2, k3⟩ := vx_keep h0 e1 hS hAX hf hL hF
    obtain ⟨t2, a1, b1⟩ := kx E ce q u t T'.heap (locs ++ L) e1.symm (by rw [← e2]; exact X'.warmed.alike) hp hb k1 k2 k3 (by rw [e1]; exact hce) hcv hcl T' rfl X'
    exact ⟨t2, st.trans a1, b1⟩
theorem vx_callv {S SX : Type} {post : S → Prop} {px : SX → Prop} {B : S → State → Prop} {BX : String → SX → State → Prop} {AX : Nat → Prop} (hr : vx_Run p l e R s m args below meth c H locs cells slots mc ms (F0 m pc ls st0) rest (va_Qv post B A1 a) (vx_X px BX AX) free) (hS : va_S A0 H0 H locs) (hA : ∀ q, q < H.size → A1 q → A0 q) (hf : ∀ q, free q → A0 q) (hAX : ∀ q, q < H.size → AX q → A0 q)
    (kx : ∀ (E : String) (ce : Cell) (q9 : Addr) (u : SX) (t : State) (H1 : Heap) (locs1 : List Loc), t.heap = H1 → s.vm.Alike t.vm → px u → BX E u t → H.size ≤ H1.size → (∀ q : Nat, q < H.size → ¬ AX q → H1[q]? = H[q]?) → va_S A0 H0 H1 locs1 → H1[q9]? = some ce → ce.vm = .none → s.vm.findClass E = some ce.cls → vx_W p l e R s m args below meth c H1 locs1 (cells + mc) (slots + ms) Q (F0 m pc ls rest) q9)
    (kk : ∀ (u : S) (t : State) (H1 : Heap) (locs1 : List Loc), t.heap = H1 → s.vm.Alike t.vm → post u → B u t → H.size ≤ H1.size → (∀ q : Nat, q < H.size → ¬ A1 q → H1[q]? = H[q]?) → va_S A0 H0 H1 locs1 → W p l e R s m args below meth c H1 locs1 (cells + mc) (slots + ms) Q (F0 m (pc + 3) ls (rest))) : W p l e R s m args below meth c H locs cells slots Q (F0 m pc ls st0) := by
  intro T hT X
  rcases hr T hT X with ⟨v, st₀, t, T', L, h0, X', hL, e1, e2, ⟨⟨u, hv, hp, hb⟩, hF⟩, st⟩ | ⟨q, st₀, t, T', L, E, ce, h0, X', hL, e1, e2, ⟨u, hp, hb, hF⟩, hce, hcv, hcl, st⟩
  · cases hv
    obtain ⟨k1, k2, k3⟩ := vx_keep h0 e1 hS hA hf hL hF
    obtain ⟨t2, a1, b1⟩ := kk u t T'.heap (locs ++ L) e1.symm (by rw [← e2]; exact X'.warmed.alike) hp hb k1 k2 k3 T' rfl X'
    exact ⟨t2, st t2 a1, b1⟩
  · obtain ⟨k1, k2, k3⟩ := vx_keep h0 e1 hS hAX hf hL hF
    obtain ⟨t2, a1, b1⟩ := kx E ce q u t T'.heap (locs ++ L) e1.symm (by rw [← e2]; exact X'.warmed.alike) hp hb k1 k2 k3 (by rw [e1]; exact hce) hcv hcl T' rfl X'
    exact ⟨t2, st.trans a1, b1⟩
/-- caught by the row x of this method's table; the rows ahead don't take it -/
theorem vx_catch {own name : String} {E : String} {ce : Cell} {q : Addr} (hown : s.vm.findClass own = some m.cls) (pre : List ExceptionTableEntry) (x : ExceptionTableEntry) (suf : List ExceptionTableEntry) (hsplit : c.exceptionTable.toList = pre ++ x :: suf)
    (hpass : ∀ z ∈ pre, covers z pc = false ∨ (z.catchType ≠ 0 ∧ ∃ nm : String, (Cond.classLink own z.catchType nm).before args s = true ∧ va_Nc E nm s)) (hx : covers x pc = true) (h0 : x.catchType ≠ 0)
    (hlink : (Cond.classLink own x.catchType name).before args s = true) (hcast : (Cond.castable E name).before args s = true) (hcell : H[q]? = some ce) (hv : ce.vm = .none) (hcl : s.vm.findClass E = some ce.cls)
    (kk : W p l e R s m args below meth c H locs cells slots Q (F0 m x.handlerPc ls [.ref q])) : vx_W p l e R s m args below meth c H locs cells slots Q (F0 m pc ls rest) q := by
  intro T hT X
  have hpl : e.platform.magicAccessors = ({} : Platform).magicAccessors := by rw [X.admits.platform]
  obtain ⟨c3, c4, hc3, hc4, hasg⟩ := Cond.castable_spec hcast
  cases Option.some.inj (hc3.symm.trans hcl)
  obtain ⟨c5, hc5, hcl5⟩ := Cond.classLink_spec hown hlink e.platform hpl
  cases Option.some.inj (hc4.symm.trans hc5)
  obtain ⟨vm', X', st⟩ := X.thenCaughtThrough q (g := F0 m pc ls rest) rfl (Steps.refl _) (by rw [hT]; exact hcell) (by rw [hv]; rfl) (by obtain ⟨k9, h9, -⟩ := Vm.findClass_spec hcl; exact ⟨k9, h9⟩) pre x suf hsplit
    (fun z hz => by
      rcases hpass z hz with h | ⟨hz0, nm, hl1, hn1⟩
      · exact Or.inl h
      · obtain ⟨c6, hc6, hcl6⟩ := Cond.classLink_spec hown hl1 e.platform hpl
        obtain ⟨a8, b8, h1, h2, h3⟩ := hn1
        cases Option.some.inj (h1.symm.trans hcl)
        cases Option.some.inj (h2.symm.trans hc6)
        exact Or.inr ⟨hz0, _, hcl6, h3⟩) hx (Or.inr ⟨h0, c4, hcl5, hasg⟩)
  obtain ⟨t, a1, b1⟩ := kk (T.setVm vm') hT X'
  exact ⟨t, st.trans a1, b1⟩
end Rows
section Ends
variable {p : Program} {l : Launch} {e : Env} {R : Room} {s : State} {m : MethodId} {args : Array Value} {below : List Frame} {meth : Method} {c : Code} {H : Heap} {locs : List Loc} {cells slots : Nat} {Q : State → Prop}
variable {mc ms : Nat} {free : Addr → Prop} {A0 A1 : Nat → Prop} {H0 : Heap} {a : Array Value} {ls : Array Slot} {st0 rest : List Value}
variable {Qc : Array Value → State → Outcome → State → Prop} {XC : String → State → State → Prop}
/-- what a body that may throw owes at its end -/
def vx_MQ (below : List Frame) (Qc : Array Value → State → Outcome → State → Prop) (XC : String → State → State → Prop) (a : Array Value) (s : State) (mc ms : Nat) (free : Addr → Prop) : State → Prop := fun t =>
  ∃ o, t.status = .running ∧ Ended t below o ∧ vx_Q Qc XC mc ms free a s o t
theorem vx_ret {g : JFrame} {mc ms : Nat} (k : W p l e R s m args below meth c H locs cells slots (MQ below Qc args s mc ms free) g) : W p l e R s m args below meth c H locs cells slots (vx_MQ below Qc XC args s mc ms free) g := by
  intro T hT X
  obtain ⟨t, a1, o, b1, b2, b3, b4⟩ := k T hT X
  exact ⟨t, a1, o, b1, b2, Or.inl ⟨b3, b4⟩⟩
/-- not caught here: it goes on to the caller -/
theorem vx_widen {g : JFrame} {q : Addr} {k n : Nat} (h1 : cells ≤ k) (h2 : slots ≤ n) (kk : vx_W p l e R s m args below meth c H locs k n Q g q) : vx_W p l e R s m args below meth c H locs cells slots Q g q := fun T hT X => kk T hT (stand_widen X h1 h2)
theorem vx_out {pc : Nat} {E : String} {ce : Cell} {q : Addr} {mc ms : Nat} (hout : ∀ x ∈ c.exceptionTable.toList, covers x pc = false) (hlocks : meth.locks = false) (hcell : H[q]? = some ce) (hv : ce.vm = .none) (hcl : s.vm.findClass E = some ce.cls)
    (hx : ∀ t : State, t.heap = H → s.vm.Alike t.vm → XC E s t) (hf : ∀ z ∈ locs, free z.base) (hc : cells ≤ mc) (hs : slots ≤ ms) :
    vx_W p l e R s m args below meth c H locs cells slots (vx_MQ below Qc XC args s mc ms free) (F0 m pc ls rest) q := by
  intro T hT X
  obtain ⟨st1, hrun, hend, hW, hsm⟩ := X.leaveThrown q (g := F0 m pc ls rest) rfl rfl rfl hout hlocks
  have hcell9 : (T.setFrames (.throwing q :: below)).heap[q]? = some ce := by
    show T.heap[q]? = some ce
    rw [hT]; exact hcell
  exact ⟨_, st1, .threw q, hrun, hend, Or.inr ⟨q, rfl, E, ce, locs, hx _ hT hW.alike, hcell9, hv, hcl, hW, hsm.mono hc hs, hf⟩⟩
theorem vx_frame {U : State} {k n : Nat} (h : s.sameButNew ({ U with vm := s.vm } : State) locs k n) : s.heap.size ≤ U.heap.size ∧ ∀ q : Nat, q < s.heap.size → (∀ z ∈ locs, z.base ≠ q) → U.heap[q]? = s.heap[q]? := by
  obtain ⟨-, h2, -, -, -, h6⟩ := h
  refine ⟨h2, fun q hq hz => ?_⟩
  obtain ⟨c9, e1, e2, e3, e4⟩ := h6 q _ (Array.getElem?_eq_getElem hq)
  have hs : c9.slots = (s.heap[q]).slots := Array.ext_getElem? fun i => e4 i fun hm => hz _ hm rfl
  have h9 : c9 = s.heap[q] := by
    rw [hs] at e2
    exact e2
  have e5 : U.heap[q]? = some c9 := e1
  rw [e5, h9, Array.getElem?_eq_getElem hq]
/-- the words of a throw but the four that speak of the heap -/
def vx_no (w : Cond) : Bool := decide (w ≠ .isRef (.static Bundle.tN "UNASSIGNED_STACK" Bundle.steD)) && decide (w ≠ .isRef (.static Bundle.tN "SUPPRESSED_SENTINEL" Bundle.listD)) && decide (w ≠ .laysStatic Bundle.tN "UNASSIGNED_STACK" Bundle.steD) && decide (w ≠ .laysStatic Bundle.tN "SUPPRESSED_SENTINEL" Bundle.listD)
def vx_at0 (own : String) (ic : Nat) (X : String) (names : List String) : List Cond := (Bundle.ownAtoms0 own ic X names).filter vx_no
def vx_atS (own : String) (ic : Nat) (X : String) (names : List String) : List Cond := (Bundle.ownAtoms own ic X names).filter vx_no
/-- a word that the tables alone decide, or a good one -/
def vx_ot (w : Cond) : Bool := w.onTables || goodWord w
theorem vx_ot_at {args a' : Array Value} {s U : State} {w : Cond} (hW : s.WarmedH U.vm) (hvm : s.vm = U.vm) (hg : vx_ot w = true) (h : w.before args s = true) : w.before a' U = true := by
  simp only [vx_ot, Bool.or_eq_true] at hg
  rcases hg with hg | hg
  · exact va_tabs hg hvm h
  · exact word_at hW (good_of_word hg) h
/-- a list's words: the good ones out of the method's own list, the others by premises of their own -/
theorem vx_hat {args : Array Value} {s : State} {L B : List Cond} (h1 : ∀ w ∈ L.filter goodWord, w.before args s = true) (h2 : ∀ w ∈ L.filter (fun w => !goodWord w), w ∈ B) (h3 : ∀ w ∈ B, w.before args s = true) : ∀ w ∈ L, w.before args s = true := by
  intro w hw
  by_cases g : goodWord w = true
  · exact h1 w (List.mem_filter.mpr ⟨hw, g⟩)
  · refine h3 w (h2 w (List.mem_filter.mpr ⟨hw, ?_⟩))
    show (!goodWord w) = true
    cases hgw : goodWord w
    · rfl
    · exact absurd hgw g
theorem vx_c {args : Array Value} {s : State} {w : Cond} {B : List Cond} (h : w.before args s = true) (t : ∀ w ∈ B, w.before args s = true) : ∀ w' ∈ w :: B, w'.before args s = true := fun w' h' => (List.mem_cons.mp h').elim (fun e => by rw [e]; exact h) (t w')
theorem vx_n {args : Array Value} {s : State} : ∀ w ∈ ([] : List Cond), w.before args s = true := fun _ h => nomatch h
theorem vx_own {args : Array Value} {s : State} {L : List Cond} (h1 : ∀ w ∈ L.filter vx_no, w.before args s = true)
    (hU : (Cond.isRef (.static Bundle.tN "UNASSIGNED_STACK" Bundle.steD)).before args s = true) (hN : (Cond.isRef (.static Bundle.tN "SUPPRESSED_SENTINEL" Bundle.listD)).before args s = true)
    (lU : (Cond.laysStatic Bundle.tN "UNASSIGNED_STACK" Bundle.steD).before args s = true) (lN : (Cond.laysStatic Bundle.tN "SUPPRESSED_SENTINEL" Bundle.listD).before args s = true) : ∀ w ∈ L, w.before args s = true := by
  intro w hw
  by_cases e1 : w = .isRef (.static Bundle.tN "UNASSIGNED_STACK" Bundle.steD)
  · rw [e1]; exact hU
  · by_cases e2 : w = .isRef (.static Bundle.tN "SUPPRESSED_SENTINEL" Bundle.listD)
    · rw [e2]; exact hN
    · by_cases e3 : w = .laysStatic Bundle.tN "UNASSIGNED_STACK" Bundle.steD
      · rw [e3]; exact lU
      · by_cases e4 : w = .laysStatic Bundle.tN "SUPPRESSED_SENTINEL" Bundle.listD
        · rw [e4]; exact lN
        · exact h1 w (List.mem_filter.mpr ⟨hw, by unfold vx_no; rw [decide_eq_true e1, decide_eq_true e2, decide_eq_true e3, decide_eq_true e4]; rfl⟩)
/-- where a static field lies, its class's statics cell in H -/
def vx_L (C n d : String) (A : Nat → Prop) (U : State) (H : Heap) : Prop := ∃ (c : ClassId) (k : Class) (i : Nat) (f : Field) (a : Nat) (cell : Cell), U.vm.findClass C = some c ∧ U.fieldFound? C n d = some (c, k, i, f) ∧ f.isStatic = true ∧ k.statics = some a ∧ H[a]? = some cell ∧ cell.vm.isStatics = true ∧ cell.cls = c ∧ f.slot < cell.slots.size ∧ k.staticTypes[f.slot]? = some f.type ∧ ¬ A a
theorem vx_L.moved {C n d : String} {A : Nat → Prop} {u U : State} {H : Heap} (hvm : u.vm.Alike U.vm) (h : vx_L C n d A u H) : vx_L C n d A U H := by
  obtain ⟨c, k, i, f, a, cell, h1, h2, h3, h4, h5, h6, h7, h8, h9, h10⟩ := h
  obtain ⟨k', hi', he⟩ := State.fieldFound?_setVm hvm h2
  exact ⟨c, k', i, f, a, cell, by rw [hvm.findClass]; exact h1, hi', h3, by rw [he]; exact h4, h5, h6, h7, h8, by rw [he]; exact h9, h10⟩
theorem vx_L.kept {C n d : String} {A : Nat → Prop} {U : State} {H H1 : Heap} (h : vx_L C n d A U H) (hq : ∀ a : Nat, a < H.size → ¬ A a → H1[a]? = H[a]?) : vx_L C n d A U H1 := by
  obtain ⟨c, k, i, f, a, cell, h1, h2, h3, h4, h5, h6, h7, h8, h9, h10⟩ := h
  exact ⟨c, k, i, f, a, cell, h1, h2, h3, h4, by rw [hq a (Array.getElem?_eq_some_iff.mp h5).1 h10]; exact h5, h6, h7, h8, h9, h10⟩
theorem vx_L.narrow {C n d : String} {A B : Nat → Prop} {U : State} {H : Heap} (h : vx_L C n d A U H) (hAB : ∀ q, B q → A q) : vx_L C n d B U H := by
  obtain ⟨c, k, i, f, a, cell, h1, h2, h3, h4, h5, h6, h7, h8, h9, h10⟩ := h
  exact ⟨c, k, i, f, a, cell, h1, h2, h3, h4, h5, h6, h7, h8, h9, fun z => h10 (hAB _ z)⟩
theorem vx_L.word {C n d : String} {A : Nat → Prop} {s : State} {args : Array Value} (h : vx_L C n d A s s.heap) : (Cond.laysStatic C n d).before args s = true := by
  obtain ⟨c, k, i, f, a, cell, h1, h2, h3, h4, h5, h6, h7, h8, h9, -⟩ := h
  show (Cond.laysStatic C n d).holds args s none s [] = true
  exact Cond.laysStatic_of h1 h2 h3 h4 h5 h6 h7 h8 h9
/-- .. and what it holds: null or some reference -/
def vx_Zq (C n d : String) (A : Nat → Prop) (U : State) (H : Heap) : Prop := va_Zq C n d A U H ∧ vx_L C n d A U H
theorem vx_Zq.moved {C n d : String} {A : Nat → Prop} {u U : State} {H : Heap} (hvm : u.vm.Alike U.vm) (h : vx_Zq C n d A u H) : vx_Zq C n d A U H := ⟨va_Zq.moved hvm h.1, vx_L.moved hvm h.2⟩
theorem vx_Zq.kept {C n d : String} {A : Nat → Prop} {U : State} {H H1 : Heap} (h : vx_Zq C n d A U H) (hq : ∀ a : Nat, a < H.size → ¬ A a → H1[a]? = H[a]?) : vx_Zq C n d A U H1 := ⟨va_Zq.kept h.1 hq, vx_L.kept h.2 hq⟩
theorem vx_Zq.narrow {C n d : String} {A B : Nat → Prop} {U : State} {H : Heap} (h : vx_Zq C n d A U H) (hAB : ∀ q, B q → A q) : vx_Zq C n d B U H := ⟨va_Zq.narrow h.1 hAB, vx_L.narrow h.2 hAB⟩
theorem vx_Zqof {args : Array Value} {s : State} {C n d : String} {A : Nat → Prop} (hl : (Cond.laysStatic C n d).before args s = true) (hini : (Cond.initialized C).before args s = true) (h : (Cond.isRef (.static C n d)).before args s = true) (hA : ∀ a : Nat, a < s.heap.size → ¬ A a) : vx_Zq C n d A s s.heap := by
  refine ⟨va_Zqof hl hini h hA, ?_⟩
  obtain ⟨c, k, i, f, a, cell, h1, h2, h3, h4, h5, h6, h7, h8, h9⟩ := Cond.laysStatic_spec hl
  exact ⟨c, k, i, f, a, cell, h1, h2, h3, h4, h5, h6, h7, h8, h9, hA a (Array.getElem?_eq_some_iff.mp h5).1⟩
theorem vx_isRef {C n d : String} {v : Value} {A : Nat → Prop} {s : State} {args : Array Value} (h : va_Z C n d v A s s.heap) (hv : v.isRef = true) : (Cond.isRef (.static C n d)).before args s = true := by
  obtain ⟨cf, kf, fi, f, a, cell, h1, h2, h3, h4, h5, h6, h7, -⟩ := h
  have he : (Term.static C n d).eval args s none [] s = some v := by
    simp [Term.eval, State.fieldNamed?, h1, h2, h4, h5, h6, h7]
  simp only [Cond.before, Cond.holds, Cond.value, he]
  cases v <;> simp_all [Value.isRef]
theorem vx_isRefq {C n d : String} {A : Nat → Prop} {s : State} {args : Array Value} (h : va_Zq C n d A s s.heap) : (Cond.isRef (.static C n d)).before args s = true := by
  rcases h with h | ⟨t, h⟩
  · exact vx_isRef h rfl
  · exact vx_isRef h rfl
/-- the same frame, seen from here: as if the method were called anew in this heap -/
theorem vx_rebase {T : State} (X : Stand p l e R s m args below meth c T locs cells slots) {R' : Room} (hf : R'.frames ≤ R.frames) (hl : R'.locals ≤ R.locals) (hc : cells + R'.cells ≤ R.cells) (hs : slots + R'.slots ≤ R.slots) :
    Stand p l e R' ((T.setVm s.vm).setFrames (.invoking m args :: below)) m args below meth c T [] 0 0 := by
  have htop : (T.setVm s.vm).topJava?.isSome := X.here.top
  have hF : ((T.setVm s.vm).setFrames (.invoking m args :: below)).frames = .invoking m args :: below := State.frames_setFrames _ (State.cur_lt_of_top htop)
  obtain ⟨g₀, hg0⟩ := Option.isSome_iff_exists.mp htop
  obtain ⟨r, hr⟩ := State.topJava?_eq_some.mp hg0
  have hl9 : e.platform.stackLimits (T.setVm s.vm).me = e.platform.stackLimits s.me := X.limits
  have hb9 : (T.setVm s.vm).me.stackBytes = s.me.stackBytes := X.bytes
  refine ⟨X.admits, X.cas, X.clock, hF, ?_, X.hears, X.method, X.code, X.here, X.tail, X.warmed, ?_, ?_, ?_⟩
  · have h := X.room
    have hU : ((T.setVm s.vm).setFrames (.invoking m args :: below)).localsInUse = s.localsInUse := by
      rw [State.localsInUse_invoking hF (meth := meth) (c := c) X.method X.code, State.localsInUse_invoking X.frames X.method X.code]
    simp only [State.hasRoom, Bool.and_eq_true, decide_eq_true_eq] at h ⊢
    obtain ⟨⟨⟨⟨h1, h2, h3, h4, h5, h6⟩, h7⟩, h8⟩, h9⟩ := h
    rw [X.frames, List.length_cons] at h2 h3
    have q1 := X.heapSize
    have q2 := X.used
    simp only [hF, hU, List.length_cons, State.stackLimits_setFrames, State.stackBytes_setFrames, hl9, hb9]
    refine ⟨⟨⟨⟨by omega, by omega, by omega, by omega, by omega, h6⟩, ?_⟩, ?_⟩, X.book⟩
    · show T.heap.size + R'.cells ≤ e.platform.maxCells
      omega
    · show T.slotsUsed + R'.slots ≤ e.platform.maxSlots
      omega
  · rw [State.stackLimits_setFrames]; rfl
  · rw [State.stackBytes_setFrames]; rfl
  · refine ⟨?_, Nat.le_refl _, Nat.le_refl _, ?_, ?_, fun a c9 h9 => ⟨c9, h9, rfl, rfl, fun _ _ => rfl⟩⟩
    · obtain ⟨t, ht, -⟩ := State.frames_cons hr
      show T.setVm s.vm = { ((T.setVm s.vm).setFrames (.invoking m args :: below)).setFrames (T.setVm s.vm).frames with heap := T.heap, slotsUsed := T.slotsUsed }
      rw [State.setFrames_setFrames, State.setFrames_self ht]
      rfl
    · show T.slotsUsed = T.slotsUsed + ((T.heap.toList.drop T.heap.size).map (·.slots.size)).sum
      rw [List.drop_eq_nil_of_le (Nat.le_of_eq Array.length_toList)]
      rfl
    · show ((T.heap.toList.drop T.heap.size).map (·.slots.size)).sum ≤ 0
      rw [List.drop_eq_nil_of_le (Nat.le_of_eq Array.length_toList)]
      exact Nat.le_refl _
/-- 'throw new E()': new; dup; invokespecial; athrow -/
theorem vx_throw0 {cc : ByteArray} {pc : Nat} (hexec : p.tables.exec = Jvm.exec) (hb : c.code = cc) (hl : l.stackTraces = false) {own cls : String} {names : List String} {ik ic mc ms : Nat} {A : Nat → Prop}
    (hown : s.vm.findClass own = some m.cls) (hcls : Bundle.fit cls = true) (hnames : ∀ n ∈ names, Bundle.fit n = true)
    (hk : (Cond.classLink own ik cls).before args s = true) (hini : (Cond.initialized cls).before args s = true) (hat : ∀ w ∈ vx_at0 own ic cls names, w.before args s = true)
    (hgood : ∀ w ∈ Cond.classLink own ik cls :: Cond.initialized cls :: vx_at0 own ic cls names, vx_ot w = true)
    (hU : vx_Zq Bundle.tN "UNASSIGNED_STACK" Bundle.steD A s s.heap) (hN : vx_Zq Bundle.tN "SUPPRESSED_SENTINEL" Bundle.listD A s s.heap) (hS : va_S A s.heap H locs) (hsize : ls.size = c.maxLocals)
    (d0 : decode cc pc = .ok (.new ik, 3)) (d3 : decode cc (pc + 3) = .ok (.dup, 1)) (d4 : decode cc (pc + 4) = .ok (.invokespecial ic, 3)) (d7 : decode cc (pc + 7) = .ok (.athrow, 1))
    (hout : ∀ x ∈ c.exceptionTable.toList, covers x (pc + 7) = false)
    (hRframes : names.length + 3 < R.frames) (hRlocals : (rest.map fun v => v.category).sum + (13 * (names.length + 1) + 42) ≤ R.locals) (hRcells : cells + 1 ≤ R.cells) (hRslots : slots + 6 ≤ R.slots) (hlocks : meth.locks = false)
    (hx : ∀ t : State, s.vm.Alike t.vm → H.size ≤ t.heap.size → (∀ q : Nat, q < H.size → t.heap[q]? = H[q]?) → XC cls s t)
    (hf : ∀ z ∈ locs, free z.base) (hc : cells + 1 ≤ mc) (hs : slots + 6 ≤ ms) :
    W p l e R s m args below meth c H locs cells slots (vx_MQ below Qc XC args s mc ms free) (F0 m pc ls rest) := by
  intro T hT X
  have htr : e.platform.stackTraces = false := (show e.platform.stackTraces = l.stackTraces by rw [X.admits.platform]).trans hl
  have Y := vx_rebase X (R' := { frames := R.frames, locals := R.locals, cells := 1, slots := 6 }) (Nat.le_refl _) (Nat.le_refl _) hRcells hRslots
  obtain ⟨s', hA⟩ : ∃ z, z = (T.setVm s.vm).setFrames (.invoking m args :: below) := ⟨_, rfl⟩
  rw [← hA] at Y
  have hvm : s'.vm = s.vm := by rw [hA]; rfl
  have hhp : s'.heap = H := by rw [hA]; exact hT
  have hW0 : s.WarmedH s'.vm := by rw [hvm]; exact State.WarmedH.refl s
  have hat' : ∀ w ∈ vx_at0 own ic cls names, w.before args s' = true := fun w hw => vx_ot_at hW0 hvm.symm (hgood w (List.mem_cons_of_mem _ (List.mem_cons_of_mem _ hw))) (hat w hw)
  have hk' : (Cond.classLink own ik cls).before args s' = true := vx_ot_at hW0 hvm.symm (hgood _ List.mem_cons_self) hk
  have hini' : (Cond.initialized cls).before args s' = true := vx_ot_at hW0 hvm.symm (hgood _ (List.mem_cons_of_mem _ List.mem_cons_self)) hini
  have hU' : vx_Zq Bundle.tN "UNASSIGNED_STACK" Bundle.steD A s' s'.heap := by rw [hhp]; exact vx_Zq.moved hW0.alike (hU.kept hS.2.1)
  have hN' : vx_Zq Bundle.tN "SUPPRESSED_SENTINEL" Bundle.listD A s' s'.heap := by rw [hhp]; exact vx_Zq.moved hW0.alike (hN.kept hS.2.1)
  have h : ∀ w ∈ Bundle.ownAtoms0 own ic cls names, w.before args s' = true := vx_own hat' (vx_isRefq hU'.1) (vx_isRefq hN'.1) hU'.2.word hN'.2.word
  have hown' : s'.vm.findClass own = some m.cls := by rw [hvm]; exact hown
  have hins : (Cond.instantiable cls 6).before args s' = true := h _ (by simp [Bundle.ownAtoms0])
  obtain ⟨vm₁, cX, kX, hfX, hkX, -, -, X₁, st1⟩ := Y.newCold hexec (own := own) (C := cls) (index := ik) (n := 6) hown' hk' hins hini'
    (g := F0 m pc ls rest) rfl (by rw [hb]; exact d0) (Nat.le_refl _) (Nat.le_refl _)
  generalize hT1 : (T.setVm vm₁).pushCell { cls := cX, slots := kX.instanceTypes.map defaultValue, vm := .none } = T1 at X₁ st1
  have hcat : (Value.ref T.heap.size).category = 1 := rfl
  have hcellA : T1.heap[T.heap.size]? = some (freshCell cX kX) := by rw [← hT1]; exact State.heap_pushCell_size _ _
  have d3' : decode c.code (pc + 3) = .ok (.dup, 1) := by rw [hb]; exact d3
  obtain ⟨U, hsteps, hrun, hend, hW, hsame, ce, hce, hO⟩ := X₁.ctorThrow0 hexec htr (own := own) (cls := cls) (names := names) (ic := ic) hown' hcls hnames h (fun x hx => nomatch hx) hfX hkX hcellA (by rw [hhp, hT]; exact Nat.le_refl _)
    (g := { method := m, pc := pc + 4, locals := ls, stack := .ref T.heap.size :: .ref T.heap.size :: rest, locked := none }) rfl hsize rfl rfl (rest := rest) rfl
    (by rw [hb]; exact d4) (by rw [hb]; exact d7) hout hRframes (by simp only [List.map_cons, List.sum_cons, hcat]; omega) hlocks
  obtain ⟨f1, f2⟩ := vx_frame hsame
  rw [hhp] at f1 f2
  have hWs : s.WarmedH U.vm := State.WarmedH.trans hW0 hW
  have hcl : s.vm.findClass cls = some ce.cls := by
    have h9 := hO.cls
    rw [hvm] at h9
    exact h9
  have hall : s.sameButNew ({ U with vm := s.vm } : State) locs mc ms := by
    subst hA
    obtain ⟨e1, e2⟩ := hsame
    rw [State.setFrames_setFrames] at e1
    have h2 : (T.setVm s.vm).sameButNew ({ U with vm := s.vm } : State) [] (0 + 1) (0 + 6) := ⟨e1, e2⟩
    have h3 := X.same.trans h2
    rw [List.append_nil] at h3
    exact h3.mono hc hs
  refine ⟨U, ?_, .threw T.heap.size, hrun, hend, Or.inr ⟨T.heap.size, rfl, cls, ce, locs, hx U hWs.alike f1 (fun q hq => f2 q hq (fun z hz => nomatch hz)), hce, hO.vm, hcl, hWs, hall, hf⟩⟩
  refine st1 _ ?_
  show Steps p.tables e below (T1.setTop { method := m, pc := pc + 3, locals := ls, stack := .ref T.heap.size :: rest, locked := none }) _
  jvm_step X₁.here [X₁.here.top, hexec, d3', Value.category]
  exact hsteps
/-- 'throw new E("text")': new; dup; ldc; invokespecial; athrow -/
theorem vx_throwS {cc : ByteArray} {pc : Nat} (hexec : p.tables.exec = Jvm.exec) (hb : c.code = cc) (hl : l.stackTraces = false) {own cls text : String} {names : List String} {ik is ic mc ms sa : Nat} {A : Nat → Prop}
    (hown : s.vm.findClass own = some m.cls) (hcls : Bundle.fit cls = true) (hnames : ∀ n ∈ names, Bundle.fit n = true)
    (hk : (Cond.classLink own ik cls).before args s = true) (hini : (Cond.initialized cls).before args s = true) (hstr : vk_R own is text sa s) (hat : ∀ w ∈ vx_atS own ic cls names, w.before args s = true)
    (hgood : ∀ w ∈ Cond.classLink own ik cls :: Cond.initialized cls :: vx_atS own ic cls names, vx_ot w = true)
    (hU : vx_Zq Bundle.tN "UNASSIGNED_STACK" Bundle.steD A s s.heap) (hN : vx_Zq Bundle.tN "SUPPRESSED_SENTINEL" Bundle.listD A s s.heap) (hS : va_S A s.heap H locs) (hsize : ls.size = c.maxLocals)
    (d0 : decode cc pc = .ok (.new ik, 3)) (d3 : decode cc (pc + 3) = .ok (.dup, 1)) (d4 : decode cc (pc + 4) = .ok (.ldc is, 2)) (d6 : decode cc (pc + 6) = .ok (.invokespecial ic, 3)) (d9 : decode cc (pc + 9) = .ok (.athrow, 1))
    (hout : ∀ x ∈ c.exceptionTable.toList, covers x (pc + 9) = false)
    (hRframes : names.length + 3 < R.frames) (hRlocals : (rest.map fun v => v.category).sum + (13 * (names.length + 1) + 43) ≤ R.locals) (hRcells : cells + 1 ≤ R.cells) (hRslots : slots + 6 ≤ R.slots) (hlocks : meth.locks = false)
    (hx : ∀ t : State, s.vm.Alike t.vm → H.size ≤ t.heap.size → (∀ q : Nat, q < H.size → t.heap[q]? = H[q]?) → XC cls s t)
    (hf : ∀ z ∈ locs, free z.base) (hc : cells + 1 ≤ mc) (hs : slots + 6 ≤ ms) :
    W p l e R s m args below meth c H locs cells slots (vx_MQ below Qc XC args s mc ms free) (F0 m pc ls rest) := by
  intro T hT X
  have htr : e.platform.stackTraces = false := (show e.platform.stackTraces = l.stackTraces by rw [X.admits.platform]).trans hl
  have Y := vx_rebase X (R' := { frames := R.frames, locals := R.locals, cells := 1, slots := 6 }) (Nat.le_refl _) (Nat.le_refl _) hRcells hRslots
  obtain ⟨s', hA⟩ : ∃ z, z = (T.setVm s.vm).setFrames (.invoking m args :: below) := ⟨_, rfl⟩
  rw [← hA] at Y
  have hvm : s'.vm = s.vm := by rw [hA]; rfl
  have hhp : s'.heap = H := by rw [hA]; exact hT
  have hW0 : s.WarmedH s'.vm := by rw [hvm]; exact State.WarmedH.refl s
  have hat' : ∀ w ∈ vx_atS own ic cls names, w.before args s' = true := fun w hw => vx_ot_at hW0 hvm.symm (hgood w (List.mem_cons_of_mem _ (List.mem_cons_of_mem _ hw))) (hat w hw)
  have hk' : (Cond.classLink own ik cls).before args s' = true := vx_ot_at hW0 hvm.symm (hgood _ List.mem_cons_self) hk
  have hini' : (Cond.initialized cls).before args s' = true := vx_ot_at hW0 hvm.symm (hgood _ (List.mem_cons_of_mem _ List.mem_cons_self)) hini
  have hU' : vx_Zq Bundle.tN "UNASSIGNED_STACK" Bundle.steD A s' s'.heap := by rw [hhp]; exact vx_Zq.moved hW0.alike (hU.kept hS.2.1)
  have hN' : vx_Zq Bundle.tN "SUPPRESSED_SENTINEL" Bundle.listD A s' s'.heap := by rw [hhp]; exact vx_Zq.moved hW0.alike (hN.kept hS.2.1)
  have h : ∀ w ∈ Bundle.ownAtoms own ic cls names, w.before args s' = true := vx_own hat' (vx_isRefq hU'.1) (vx_isRefq hN'.1) hU'.2.word hN'.2.word
  have hown' : s'.vm.findClass own = some m.cls := by rw [hvm]; exact hown
  have hins : (Cond.instantiable cls 6).before args s' = true := h _ (by simp [Bundle.ownAtoms])
  obtain ⟨vm₁, cX, kX, hfX, hkX, -, -, X₁, st1⟩ := Y.newCold hexec (own := own) (C := cls) (index := ik) (n := 6) hown' hk' hins hini'
    (g := F0 m pc ls rest) rfl (by rw [hb]; exact d0) (Nat.le_refl _) (Nat.le_refl _)
  generalize hT1 : (T.setVm vm₁).pushCell { cls := cX, slots := kX.instanceTypes.map defaultValue, vm := .none } = T1 at X₁ st1
  have hcat : (Value.ref T.heap.size).category = 1 := rfl
  have hcellA : T1.heap[T.heap.size]? = some (freshCell cX kX) := by rw [← hT1]; exact State.heap_pushCell_size _ _
  have d3' : decode c.code (pc + 3) = .ok (.dup, 1) := by rw [hb]; exact d3
  have d4' : decode c.code (pc + 4) = .ok (.ldc is, 2) := by rw [hb]; exact d4
  have hstr' : vk_R own is text sa s' := vk_R.warm hW0 hstr
  obtain ⟨U, hsteps, hrun, hend, hW, hsame, ce, hce, hO⟩ := X₁.ctorThrowS hexec htr (own := own) (cls := cls) (names := names) (ic := ic) hown' hcls hnames h (fun x hx => nomatch hx) hfX hkX hcellA (by rw [hhp, hT]; exact Nat.le_refl _) (msg := .ref sa) rfl
    (g := { method := m, pc := pc + 6, locals := ls, stack := .ref sa :: .ref T.heap.size :: .ref T.heap.size :: rest, locked := none }) rfl hsize rfl rfl (rest := rest) rfl
    (by rw [hb]; exact d6) (by rw [hb]; exact d9) hout hRframes (by simp only [List.map_cons, List.sum_cons, hcat]; omega) hlocks
  obtain ⟨f1, f2⟩ := vx_frame hsame
  rw [hhp] at f1 f2
  have hWs : s.WarmedH U.vm := State.WarmedH.trans hW0 hW
  have hcl : s.vm.findClass cls = some ce.cls := by
    have h9 := hO.cls
    rw [hvm] at h9
    exact h9
  have hall : s.sameButNew ({ U with vm := s.vm } : State) locs mc ms := by
    subst hA
    obtain ⟨e1, e2⟩ := hsame
    rw [State.setFrames_setFrames] at e1
    have h2 : (T.setVm s.vm).sameButNew ({ U with vm := s.vm } : State) [] (0 + 1) (0 + 6) := ⟨e1, e2⟩
    have h3 := X.same.trans h2
    rw [List.append_nil] at h3
    exact h3.mono hc hs
  refine ⟨U, ?_, .threw T.heap.size, hrun, hend, Or.inr ⟨T.heap.size, rfl, cls, ce, locs, hx U hWs.alike f1 (fun q hq => f2 q hq (fun z hz => nomatch hz)), hce, hO.vm, hcl, hWs, hall, hf⟩⟩
  refine st1 _ ?_
  show Steps p.tables e below (T1.setTop { method := m, pc := pc + 3, locals := ls, stack := .ref T.heap.size :: rest, locked := none }) _
  jvm_step X₁.here [X₁.here.top, hexec, d3', Value.category]
  exact X₁.ldcString hexec (own := own) (text := text) (index := is) (a := sa) hown' hstr'.1 hstr'.2
    (g := { method := m, pc := pc + 4, locals := ls, stack := .ref T.heap.size :: .ref T.heap.size :: rest, locked := none }) rfl d4' _ hsteps
/-- 'throw new E("text")', the text by a wide index -/
theorem vx_throwSW {cc : ByteArray} {pc : Nat} (hexec : p.tables.exec = Jvm.exec) (hb : c.code = cc) (hl : l.stackTraces = false) {own cls text : String} {names : List String} {ik is ic mc ms sa : Nat} {A : Nat → Prop}
    (hown : s.vm.findClass own = some m.cls) (hcls : Bundle.fit cls = true) (hnames : ∀ n ∈ names, Bundle.fit n = true)
    (hk : (Cond.classLink own ik cls).before args s = true) (hini : (Cond.initialized cls).before args s = true) (hstr : vk_R own is text sa s) (hat : ∀ w ∈ vx_atS own ic cls names, w.before args s = true)
    (hgood : ∀ w ∈ Cond.classLink own ik cls :: Cond.initialized cls :: vx_atS own ic cls names, vx_ot w = true)
    (hU : vx_Zq Bundle.tN "UNASSIGNED_STACK" Bundle.steD A s s.heap) (hN : vx_Zq Bundle.tN "SUPPRESSED_SENTINEL" Bundle.listD A s s.heap) (hS : va_S A s.heap H locs) (hsize : ls.size = c.maxLocals)
    (d0 : decode cc pc = .ok (.new ik, 3)) (d3 : decode cc (pc + 3) = .ok (.dup, 1)) (d4 : decode cc (pc + 4) = .ok (.ldc_w is, 3)) (d7 : decode cc (pc + 7) = .ok (.invokespecial ic, 3)) (d10 : decode cc (pc + 10) = .ok (.athrow, 1))
    (hout : ∀ x ∈ c.exceptionTable.toList, covers x (pc + 10) = false)
    (hRframes : names.length + 3 < R.frames) (hRlocals : (rest.map fun v => v.category).sum + (13 * (names.length + 1) + 43) ≤ R.locals) (hRcells : cells + 1 ≤ R.cells) (hRslots : slots + 6 ≤ R.slots) (hlocks : meth.locks = false)
    (hx : ∀ t : State, s.vm.Alike t.vm → H.size ≤ t.heap.size → (∀ q : Nat, q < H.size → t.heap[q]? = H[q]?) → XC cls s t)
    (hf : ∀ z ∈ locs, free z.base) (hc : cells + 1 ≤ mc) (hs : slots + 6 ≤ ms) :
    W p l e R s m args below meth c H locs cells slots (vx_MQ below Qc XC args s mc ms free) (F0 m pc ls rest) := by
  intro T hT X
  have htr : e.platform.stackTraces = false := (show e.platform.stackTraces = l.stackTraces by rw [X.admits.platform]).trans hl
  have Y := vx_rebase X (R' := { frames := R.frames, locals := R.locals, cells := 1, slots := 6 }) (Nat.le_refl _) (Nat.le_refl _) hRcells hRslots
  obtain ⟨s', hA⟩ : ∃ z, z = (T.setVm s.vm).setFrames (.invoking m args :: below) := ⟨_, rfl⟩
  rw [← hA] at Y
  have hvm : s'.vm = s.vm := by rw [hA]; rfl
  have hhp : s'.heap = H := by rw [hA]; exact hT
  have hW0 : s.WarmedH s'.vm := by rw [hvm]; exact State.WarmedH.refl s
  have hat' : ∀ w ∈ vx_atS own ic cls names, w.before args s' = true := fun w hw => vx_ot_at hW0 hvm.symm (hgood w (List.mem_cons_of_mem _ (List.mem_cons_of_mem _ hw))) (hat w hw)
  have hk' : (Cond.classLink own ik cls).before args s' = true := vx_ot_at hW0 hvm.symm (hgood _ List.mem_cons_self) hk
  have hini' : (Cond.initialized cls).before args s' = true := vx_ot_at hW0 hvm.symm (hgood _ (List.mem_cons_of_mem _ List.mem_cons_self)) hini
  have hU' : vx_Zq Bundle.tN "UNASSIGNED_STACK" Bundle.steD A s' s'.heap := by rw [hhp]; exact vx_Zq.moved hW0.alike (hU.kept hS.2.1)
  have hN' : vx_Zq Bundle.tN "SUPPRESSED_SENTINEL" Bundle.listD A s' s'.heap := by rw [hhp]; exact vx_Zq.moved hW0.alike (hN.kept hS.2.1)
  have h : ∀ w ∈ Bundle.ownAtoms own ic cls names, w.before args s' = true := vx_own hat' (vx_isRefq hU'.1) (vx_isRefq hN'.1) hU'.2.word hN'.2.word
  have hown' : s'.vm.findClass own = some m.cls := by rw [hvm]; exact hown
  have hins : (Cond.instantiable cls 6).before args s' = true := h _ (by simp [Bundle.ownAtoms])
  obtain ⟨vm₁, cX, kX, hfX, hkX, -, -, X₁, st1⟩ := Y.newCold hexec (own := own) (C := cls) (index := ik) (n := 6) hown' hk' hins hini'
    (g := F0 m pc ls rest) rfl (by rw [hb]; exact d0) (Nat.le_refl _) (Nat.le_refl _)
  generalize hT1 : (T.setVm vm₁).pushCell { cls := cX, slots := kX.instanceTypes.map defaultValue, vm := .none } = T1 at X₁ st1
  have hcat : (Value.ref T.heap.size).category = 1 := rfl
  have hcellA : T1.heap[T.heap.size]? = some (freshCell cX kX) := by rw [← hT1]; exact State.heap_pushCell_size _ _
  have d3' : decode c.code (pc + 3) = .ok (.dup, 1) := by rw [hb]; exact d3
  have d4' : decode c.code (pc + 4) = .ok (.ldc_w is, 3) := by rw [hb]; exact d4
  have hstr' : vk_R own is text sa s' := vk_R.warm hW0 hstr
  obtain ⟨U, hsteps, hrun, hend, hW, hsame, ce, hce, hO⟩ := X₁.ctorThrowS hexec htr (own := own) (cls := cls) (names := names) (ic := ic) hown' hcls hnames h (fun x hx => nomatch hx) hfX hkX hcellA (by rw [hhp, hT]; exact Nat.le_refl _) (msg := .ref sa) rfl
    (g := { method := m, pc := pc + 7, locals := ls, stack := .ref sa :: .ref T.heap.size :: .ref T.heap.size :: rest, locked := none }) rfl hsize rfl rfl (rest := rest) rfl
    (by rw [hb]; exact d7) (by rw [hb]; exact d10) hout hRframes (by simp only [List.map_cons, List.sum_cons, hcat]; omega) hlocks
  obtain ⟨f1, f2⟩ := vx_frame hsame
  rw [hhp] at f1 f2
  have hWs : s.WarmedH U.vm := State.WarmedH.trans hW0 hW
  have hcl : s.vm.findClass cls = some ce.cls := by
    have h9 := hO.cls
    rw [hvm] at h9
    exact h9
  have hall : s.sameButNew ({ U with vm := s.vm } : State) locs mc ms := by
    subst hA
    obtain ⟨e1, e2⟩ := hsame
    rw [State.setFrames_setFrames] at e1
    have h2 : (T.setVm s.vm).sameButNew ({ U with vm := s.vm } : State) [] (0 + 1) (0 + 6) := ⟨e1, e2⟩
    have h3 := X.same.trans h2
    rw [List.append_nil] at h3
    exact h3.mono hc hs
  refine ⟨U, ?_, .threw T.heap.size, hrun, hend, Or.inr ⟨T.heap.size, rfl, cls, ce, locs, hx U hWs.alike f1 (fun q hq => f2 q hq (fun z hz => nomatch hz)), hce, hO.vm, hcl, hWs, hall, hf⟩⟩
  refine st1 _ ?_
  show Steps p.tables e below (T1.setTop { method := m, pc := pc + 3, locals := ls, stack := .ref T.heap.size :: rest, locked := none }) _
  jvm_step X₁.here [X₁.here.top, hexec, d3', Value.category]
  exact X₁.ldcStringW hexec (own := own) (text := text) (index := is) (a := sa) hown' hstr'.1 hstr'.2
    (g := { method := m, pc := pc + 4, locals := ls, stack := .ref T.heap.size :: .ref T.heap.size :: rest, locked := none }) rfl d4' _ hsteps
end Ends
section Bodies
variable {l : Launch}
theorem vx_ofW {y : MethodName} {ws ws' : List Cond} {rm : Room} {Pc : Array Value → State → Prop} {Qc : Array Value → State → Outcome → State → Prop} {XC : String → State → State → Prop} {mc ms : Nat} {free : Addr → Prop} {cc : ByteArray} {maxL : Nat} {ret : Option FieldType}
    (hy : plainName y.cls = true) (hw : ws = Cond.code y cc maxL ret :: ws')
    (body : ∀ p e s m args below meth c s₁, BodyLoose p l y (headSpec ws rm) cc maxL ret e s m args below meth c s₁ → c.maxLocals = maxL → (∀ x ∈ c.exceptionTable.toList, False) → Pc args s →
      W p l e (headSpec ws rm).room s m args below meth c s.heap [] 0 0 (vx_MQ below Qc XC args s mc ms free) (entryFrame m args maxL)) : vx_Met l y ws rm Pc Qc XC mc ms free := by
  refine MetFree.of_bodyS (code := cc) (maxLocals := maxL) (ret := ret) hy ?_ ?_
  · intro args s m h hn
    obtain ⟨meth, c, h1, h2, h3, h4, h5, h6, -, -⟩ := Cond.code_spec hn (atoms_spec (ws := ws) h _ (by rw [hw]; exact List.mem_cons_self))
    exact ⟨meth, c, h1, h2, h3, h4, h5, h6⟩
  · intro p e s m args below meth c s₁ B hml hP _
    have hh0 : s₁.heap = s.heap := by rw [B.state]; rfl
    have ht : ∀ x ∈ c.exceptionTable.toList, False := by
      obtain ⟨meth9, c9, h1, h2, -, -, -, -, h7, -⟩ := Cond.code_spec B.named (atoms_spec (ws := ws) B.pre _ (by rw [hw]; exact List.mem_cons_self))
      cases Option.some.inj (h1.symm.trans B.method)
      cases Option.some.inj (h2.symm.trans (Stand.of_body B).code)
      intro x hx
      rw [Array.isEmpty_iff.mp h7] at hx
      cases hx
    obtain ⟨t, a1, o, b1, b2, b3⟩ := body p e s m args below meth c s₁ B hml ht hP s₁ hh0 (Stand.of_body B)
    exact ⟨t, o, a1, b1, b2, b3⟩
/-- the table of a body with handlers -/
theorem vx_table {p : Program} {x y : MethodName} {S : Spec} {cc bytes : ByteArray} {maxL maxL' : Nat} {ret ret' : Option FieldType} {e : Env} {s s₁ : State} {m : MethodId} {args : Array Value} {below : List Frame} {meth : Method} {c : Code} {hh : List (Nat × Nat × Nat × Nat)}
    (B : BodyLoose p l y S cc maxL ret e s m args below meth c s₁) (h : (Cond.codeWith y bytes maxL' ret' hh).before args s = true) : c.exceptionTable.toList = tableOf hh := by
  obtain ⟨m9, meth9, c9, hn9, h1, h2, -, -, h6, -⟩ := Cond.codeWith_spec h
  cases Option.some.inj (hn9.symm.trans B.named)
  cases Option.some.inj (h1.symm.trans B.method)
  cases Option.some.inj (h2.symm.trans (Stand.of_body B).code)
  rw [← h6, table_eq]
end Bodies
end VXA
/-! ===== END ===== -/
/-! ===== BEGIN a static call of a method with an exception table ===== -/
section VXS
variable {p : Program} {l : Launch} {e : Env} {R : Room} {s : State} {m : MethodId} {args : Array Value} {below : List Frame} {meth : Method} {c : Code} {T : State} {H : Heap} {locs : List Loc} {cells slots : Nat}
abbrev vx_CSW (R : Room) (s : State) (args : Array Value) (own : String) (index : Nat) (y : MethodName) (bytes : ByteArray) (maxL : Nat) (ret : Option FieldType) (hh : List (Nat × Nat × Nat × Nat)) (ws : List Cond) (rm : Room) (mc ms n : Nat) : Prop :=
  (rm.cells = mc ∧ rm.slots = ms ∧ rm.frames + 1 ≤ R.frames ∧ 8 + (maxL + 11) + rm.locals ≤ R.locals ∧ (∀ w ∈ ws, ∀ (a' : Array Value) (U : State), s.WarmedH U.vm → w.before a' U = true) ∧ Cond.codeWith y bytes maxL ret hh ∈ ws) ∧
  (Cond.codeWith y bytes maxL ret hh).before args s = true ∧ (Cond.initialized y.cls).before args s = true ∧ (y.cls ≠ "java/lang/invoke/MethodHandle" ∧ y.cls ≠ "java/lang/invoke/VarHandle") ∧
  (∀ sig, parseMethodDescriptor y.desc = some sig → n = sig.parameters.length) ∧ (Cond.methodLink own index y).before args s = true ∧ (Cond.static y).before args s = true
theorem vx_cwSW {own : String} {index maxL mc ms : Nat} {y : MethodName} {bytes : ByteArray} {ret : Option FieldType} {hh : List (Nat × Nat × Nat × Nat)} {Ts ws ws' : List Cond} {rm : Room} (n : Nat) (ht : ∀ w ∈ Ts, w.before args s = true) (hT : GoodIn Ts (va_wsS own index y ws)) (hw : ws = Cond.codeWith y bytes maxL ret hh :: ws') (hrc : rm.cells = mc) (hrs : rm.slots = ms)
    (hd : y.cls ≠ "java/lang/invoke/MethodHandle" ∧ y.cls ≠ "java/lang/invoke/VarHandle" ∧ (parseMethodDescriptor y.desc).map (fun d => d.parameters.length) = some n) (hR : rm.frames + 1 ≤ R.frames ∧ 8 + (maxL + 11) + rm.locals ≤ R.locals) :
    vx_CSW R s args own index y bytes maxL ret hh ws rm mc ms n := by
  have ok : ∀ w ∈ va_wsS own index y ws, w.before args s = true := fun w h => ht w (hT w h).1
  have hG : GoodIn Ts ws := fun w h => hT w (by unfold va_wsS; exact List.mem_append_right _ h)
  have hc : Cond.codeWith y bytes maxL ret hh ∈ ws := by rw [hw]; exact List.mem_cons_self
  refine ⟨⟨hrc, hrs, hR.1, hR.2, pay_in ht hG, hc⟩, ht _ (hG _ hc).1, ok _ (by simp [va_wsS]), ⟨hd.1, hd.2.1⟩, fun sig h => ?_, ok _ (by simp [va_wsS]), ok _ (by simp [va_wsS])⟩
  have h2 := hd.2.2
  rw [h] at h2
  exact (Option.some.inj h2).symm
theorem vx_callSW (X : Stand p l e R s m args below meth c T locs cells slots) (hexec : p.tables.exec = Jvm.exec) {own : String} {index : Nat} {y : MethodName} {bytes : ByteArray} {maxL : Nat} {ret : Option FieldType} {hh : List (Nat × Nat × Nat × Nat)}
    (hown : s.vm.findClass own = some m.cls) (hlink : (Cond.methodLink own index y).before args s = true) (hstat : (Cond.static y).before args s = true) (hinit : (Cond.initialized y.cls).before args s = true)
    (hcode : (Cond.codeWith y bytes maxL ret hh).before args s = true) (hy : y.cls ≠ "java/lang/invoke/MethodHandle" ∧ y.cls ≠ "java/lang/invoke/VarHandle")
    {W9 : Nat} {Pre : Pt → Array Value → Prop} {Post : Pt → Array Value → Option Value → Pt → Prop} (hK : Back l R p e below s args y 3 W9 Pre Post)
    {g : JFrame} (hg : g.method = m) (hsize : g.locals.size = c.maxLocals) {argsL rest : List Value} (hlen : ∀ sig, parseMethodDescriptor y.desc = some sig → argsL.length = sig.parameters.length)
    (hstack : g.stack = argsL.reverse ++ rest) (hW : 2 * g.monitorRoom + (rest.map fun v => v.category).sum ≤ W9) (hdg : decode c.code g.pc = .ok (.invokestatic index, 3))
    (hpre : ∀ vm₁, s.WarmedH vm₁ → Pre ⟨T.setVm vm₁, locs, cells, slots⟩ argsL.toArray) :
    ∃ (v : Option Value) (vm₁ : Vm) (B : Pt), s.WarmedH vm₁ ∧ Stand p l e R s m args below meth c B.U B.locs B.cells B.slots ∧ Post ⟨T.setVm vm₁, locs, cells, slots⟩ argsL.toArray v B ∧
      ∀ target, Steps p.tables e below (B.U.setTop { g with pc := g.pc + 3, stack := v.toList ++ rest }) target → Steps p.tables e below (T.setTop g) target := by
  obtain ⟨mk, methM, cM, hnamed, hmethM, -, -, -, -, -, -, hsigM⟩ := Cond.codeWith_spec hcode
  have hstatic : methM.isStatic = true := Cond.static_spec hnamed hmethM hstat
  obtain ⟨kP, hkP, -⟩ := className_of_methodNamed hnamed
  have hinitP : kP.init = .initialized := Cond.initialized_spec (findClass_of_methodNamed hnamed) hkP hinit
  obtain ⟨vm₁, X₁, hstep₁⟩ := X.invokestatic hexec hown hlink hnamed hmethM hstatic hkP hinitP hy (g := g) hg (argsL := argsL) (rest := rest) (hlen _ hsigM) hstack hdg
  obtain ⟨v, B, X', hpost, hsteps⟩ := hK m meth c ⟨T.setVm vm₁, locs, cells, slots⟩ { g with stack := rest } (.invokestatic index) mk argsL.toArray X₁ hg hsize hdg hW (X₁.named hnamed) (hpre vm₁ X₁.warmed)
  exact ⟨v, vm₁, B, X₁.warmed, X', hpost, fun target h => hstep₁ _ fun acts => by rw [doInvoke_state]; exact hsteps.trans h⟩
theorem vx_runSW {y : MethodName} {bytes cc : ByteArray} {maxL nL mc ms n index : Nat} {ret : Option FieldType} {hh : List (Nat × Nat × Nat × Nat)} {ws : List Cond} {rm : Room} {Pc : Array Value → State → Prop} {Qc : Array Value → State → Outcome → State → Prop} {free : Addr → Prop} {Ts : List Cond} {own : String} {As rest : List Value} {g : JFrame}
    (S : CallFix p m c cc nL s args Ts own) (hM : Met l y ws rm Pc Qc mc ms free) (cw : vx_CSW R s args own index y bytes maxL ret hh ws rm mc ms n) (hp : PreS s H Pc As)
    (hg : g.method = m) (hn : As.length = n) (hsize : g.locals.size = nL) (hstack : g.stack = As.reverse ++ rest) (hW : 2 * g.monitorRoom + (rest.map fun v => v.category).sum ≤ 8) (hdg : decode cc g.pc = .ok (.invokestatic index, 3)) (hf : cells + mc ≤ R.cells ∧ slots + ms ≤ R.slots) :
    va_Run p l e R s m args below meth c H locs cells slots mc ms g rest (Qc As.toArray) (free) := by
  obtain ⟨⟨hrc, hrs, hfr, hlo, hws, hcw⟩, hcode, hini, hy, hlen, hl, hstt⟩ := cw
  have hK : Back l R p e below s args y 3 8 (PreOf R mc ms Pc) (PostOf Qc mc ms free) := va_backW (hh := hh) (bytes := bytes) (maxL := maxL) (ret := ret) hM hp.1 hrc hrs hfr hlo hws hcw (fun a' U hW => word_at hW (Or.inl (by first | rfl | simp [Cond.onTables, Cond.keeps, Cond.steady])) hini)
  obtain ⟨hx, hb, hml, ho, -⟩ := S
  intro T hT X
  obtain ⟨v, vm₁, ⟨U', l2, c2, s2⟩, hW₁, X', ⟨g', mk, t, L, e1, e2, hq, h1, hL, h2, h3⟩, st⟩ := vx_callSW X hx (hh := hh) (bytes := bytes) (maxL := maxL) (ret := ret) ho hl hstt hini hcode hy hK hg (hsize.trans hml.symm) (argsL := As) (rest := rest) (fun sig h => hn.trans (hlen sig h)) hstack hW (by rw [hb]; exact hdg)
    (fun vm₁ hW₁ => ⟨hf.1, hf.2, hp.2 (T.setVm vm₁) hT hW₁⟩)
  dsimp only [Pt.U, Pt.locs, Pt.cells, Pt.slots] at X' e1 e2 h1 h2 h3 st
  subst h1; subst h2; subst h3
  exact ⟨v, (T.setVm vm₁).calling g' mk As.toArray, t, U', L, hT, X', hL, e1, e2, hq, st⟩
/-- a thing of a world lies in the heap -/
theorem vx_lt {D : va_G} {cl : List vw_C} {ws : va_W} {H1 : Heap} (h : va_P D cl ws H1) {k : Nat} {q : Nat × va_E} (hk : ws[k]? = some q) : q.1 < H1.size := (h k q hk).lt
end VXS
/-! ===== END ===== -/
/-! ===== BEGIN methods with a table of their own: called by a name, returning or throwing ===== -/
section VXH
/-! vx_backW, vx_callVX, vx_callSX, vx_callVW, vx_runVW, vx_runVX, vx_runSX, vx_ofWH follow the same proofs as their sisters above (Free/Laws.lean, Shelf42/LK1.lean); vx_outP calls Shelf42/NT130.lean (outThrough). -/
section
variable {l : Launch} {R : Room} {p : Program} {e : Env} {below : List Frame} {s : State} {sargs : Array Value} {y : MethodName} {len W9 : Nat}
theorem vx_backW {ws : List Cond} {rm : Room} {Pc : Array Value → State → Prop} {Qc : Array Value → State → Outcome → State → Prop} {XC : String → State → State → Prop} {mc ms : Nat} {free : Addr → Prop} {bytes : ByteArray} {maxL : Nat} {ret : Option FieldType} {hh : List (Nat × Nat × Nat × Nat)}
    (hM : vx_Met l y ws rm Pc Qc XC mc ms free) (hblind : FrameBlind Pc) (hrc : rm.cells = mc) (hrs : rm.slots = ms)
    (hframes : rm.frames + 1 ≤ R.frames) (hlocals : W9 + (maxL + 11) + rm.locals ≤ R.locals)
    (hws : ∀ w ∈ ws, ∀ a' U, s.WarmedH U.vm → w.before a' U = true) (hcode : Cond.codeWith y bytes maxL ret hh ∈ ws) (hinit : ∀ a' U, s.WarmedH U.vm → (Cond.initialized y.cls).before a' U = true) :
    vx_Back l R p e below s sargs y len W9 (PreOf R mc ms Pc) (PostOf Qc mc ms free) (vx_Post XC mc ms free) := by
  intro m meth c A g ig mk a X hg hsize hdg hW hn hp
  have h1 : (headSpec ws rm).pre.before a A.U = true := atoms_intro fun w hw => hws w hw _ _ X.warmed
  have h2 : (Cond.codeWith y bytes maxL ret hh).before a A.U = true := hws _ hcode _ _ X.warmed
  have h3 : (Cond.initialized y.cls).before a A.U = true := hinit _ _ X.warmed
  have h4 : A.cells + (headSpec ws rm).room.cells ≤ R.cells := by rw [show (headSpec ws rm).room.cells = mc from hrc]; exact hp.1
  have h5 : A.slots + (headSpec ws rm).room.slots ≤ R.slots := by rw [show (headSpec ws rm).room.slots = ms from hrs]; exact hp.2.1
  have hPc : Pc a (A.U.calling g mk a) := hblind _ _ _ _ hp.2.2
  obtain ⟨U, Ls, c0, s0⟩ := A
  dsimp only [Pt.U, Pt.locs, Pt.cells, Pt.slots] at h1 h2 h3 h4 h5 X hn hPc ⊢
  obtain ⟨m9, methY, cY, hn9, hmY, hcY, -, hlY, -⟩ := Cond.codeWith_spec h2
  cases Option.some.inj (hn9.symm.trans hn)
  obtain ⟨kY, hkY, -⟩ := className_of_methodNamed hn
  have hinitY : kY.init = .initialized := Cond.initialized_spec (findClass_of_methodNamed hn) hkY h3
  have h : At U g.method c below := by rw [hg]; exact X.here
  have hlocals9 : W9 + (maxL + 11) + (headSpec ws rm).room.locals ≤ R.locals := hlocals
  have happ : (headSpec ws rm).appliesLoose y e.platform (U.calling g mk a) = true :=
    Spec.appliesLoose_calling (g := g) h hdg hn hkY hinitY
      (X.room_calling (g := g) (R' := (headSpec ws rm).room) hsize hmY hcY hframes (by rw [hlY]; omega) h4 h5) h1
  obtain ⟨mid, hmid⟩ := h.above
  have hfr : (U.setTop g).frames = (.java g :: mid) ++ below := by rw [State.frames_setTop' g h.top, hmid]; rfl
  obtain ⟨o, s₂, hsteps, -, hend, hq⟩ := Steps.callFree hM p X.admits X.cas X.clock (acts := []) hfr happ hPc trivial
  have hq' : vx_Q Qc XC mc ms free a (U.calling g mk a) o s₂ := hq
  rw [State.frames_setTop' g h.top] at hend
  obtain ⟨g₀, hg0⟩ := Option.isSome_iff_exists.mp h.top
  obtain ⟨r, hr⟩ := State.topJava?_eq_some.mp hg0
  have hr' : (({ U with heap := s₂.heap, slotsUsed := s₂.slotsUsed } : State).setVm s₂.vm).frames = .java g₀ :: r := hr
  rcases hq' with ⟨hqc, L, hfe, hL⟩ | ⟨q, rfl, E, ce, L, hx, hce, hcv, hcl, hW₂, hsm, hL⟩
  · obtain ⟨⟨v, rfl⟩, hW₂, e2, q2, q3, q4, q5, q6⟩ := id hfe
    have e3 : s₂ = ({ (U.calling g mk a).setFrames s₂.frames with heap := s₂.heap, slotsUsed := s₂.slotsUsed } : State).setVm s₂.vm := by
      have : s₂ = ({ s₂ with vm := (U.calling g mk a).vm } : State).setVm s₂.vm := rfl
      rw [e2] at this
      exact this
    obtain ⟨c₂, i₂, len₂, hc₂, hd₂, hf₂⟩ := hend
    have hW' : U.WarmedH s₂.vm := hW₂
    have hcc : c₂ = c := by
      have h1 : s₂.code? g.method = U.code? g.method := by
        rw [State.code?_eq, State.code?_eq, hW'.alike.method?]
      exact Option.some.inj (hc₂.symm.trans (h1.trans h.code))
    subst hcc
    have hlen : len₂ = len := by rw [hdg] at hd₂; cases hd₂; rfl
    subst hlen
    have hs₂ : s₂ = (({ U with heap := s₂.heap, slotsUsed := s₂.slotsUsed } : State).setVm s₂.vm).setTop { g with pc := g.pc + len₂, stack := v.toList ++ g.stack } := by
      refine e3.trans ?_
      rw [hf₂, State.calling_eq h.top, State.setFrames_setFrames, State.setTop_of_frames _ hr', hr]
      rfl
    have hsame : U.sameButNew ({ U with heap := s₂.heap, slotsUsed := s₂.slotsUsed } : State) L mc ms := by
      refine ⟨?_, q2, q3, q4, q5, q6⟩
      obtain ⟨t, ht, -⟩ := State.frames_cons hr
      show ({ U with heap := s₂.heap, slotsUsed := s₂.slotsUsed } : State) = { U.setFrames U.frames with heap := s₂.heap, slotsUsed := s₂.slotsUsed }
      rw [State.setFrames_self ht]
    subst hg
    refine Or.inl ⟨v, ⟨(({ U with heap := s₂.heap, slotsUsed := s₂.slotsUsed } : State).setVm s₂.vm), Ls ++ L, c0 + mc, s0 + ms⟩,
      ⟨X.admits, X.cas, X.clock, X.frames, X.room, X.hears, X.method, X.code, (X.here.setHeapUsed s₂.heap s₂.slotsUsed).setVm hW'.alike, X.tail, State.WarmedH.trans X.warmed hW', X.limits, X.bytes, X.same.trans (hsame.setVm s.vm)⟩,
      ⟨g, mk, s₂, L, rfl, rfl, hqc, rfl, hL, rfl, rfl⟩, ?_⟩
    show Steps p.tables e below _ ((({ U with heap := s₂.heap, slotsUsed := s₂.slotsUsed } : State).setVm s₂.vm).setTop { g with pc := g.pc + len₂, stack := v.toList ++ g.stack })
    rw [← hs₂]
    exact hsteps
  · obtain ⟨e2, q2, q3, q4, q5, q6⟩ := id hsm
    have e3 : s₂ = ({ (U.calling g mk a).setFrames s₂.frames with heap := s₂.heap, slotsUsed := s₂.slotsUsed } : State).setVm s₂.vm := by
      have : s₂ = ({ s₂ with vm := (U.calling g mk a).vm } : State).setVm s₂.vm := rfl
      rw [e2] at this
      exact this
    have hf₂ : s₂.frames = .throwing q :: .java g :: U.frames.tail := hend
    have hW' : U.WarmedH s₂.vm := hW₂
    have hs₂ : s₂ = ((({ U with heap := s₂.heap, slotsUsed := s₂.slotsUsed } : State).setVm s₂.vm).setTop g).pushFrame (.throwing q) := by
      refine e3.trans ?_
      rw [hf₂, State.calling_eq h.top, State.setFrames_setFrames, State.pushFrame, State.frames_setTop _ hr', State.setTop_of_frames _ hr', State.setFrames_setFrames, hr]
      rfl
    have hsame : U.sameButNew ({ U with heap := s₂.heap, slotsUsed := s₂.slotsUsed } : State) L mc ms := by
      refine ⟨?_, q2, q3, q4, q5, q6⟩
      obtain ⟨t, ht, -⟩ := State.frames_cons hr
      show ({ U with heap := s₂.heap, slotsUsed := s₂.slotsUsed } : State) = { U.setFrames U.frames with heap := s₂.heap, slotsUsed := s₂.slotsUsed }
      rw [State.setFrames_self ht]
    subst hg
    refine Or.inr ⟨q, ⟨(({ U with heap := s₂.heap, slotsUsed := s₂.slotsUsed } : State).setVm s₂.vm), Ls ++ L, c0 + mc, s0 + ms⟩,
      ⟨X.admits, X.cas, X.clock, X.frames, X.room, X.hears, X.method, X.code, (X.here.setHeapUsed s₂.heap s₂.slotsUsed).setVm hW'.alike, X.tail, State.WarmedH.trans X.warmed hW', X.limits, X.bytes, X.same.trans (hsame.setVm s.vm)⟩,
      ⟨g, mk, s₂, L, E, ce, rfl, rfl, hx, hce, hcv, hcl, rfl, hL, rfl, rfl⟩, ?_⟩
    show Steps p.tables e below _ (((({ U with heap := s₂.heap, slotsUsed := s₂.slotsUsed } : State).setVm s₂.vm).setTop g).pushFrame (.throwing q))
    rw [← hs₂]
    exact hsteps
end
variable {p : Program} {l : Launch} {e : Env} {R : Room} {s : State} {m : MethodId} {args : Array Value} {below : List Frame} {meth : Method} {c : Code} {T : State} {H : Heap} {locs : List Loc} {cells slots : Nat}
theorem vx_callVX (X : Stand p l e R s m args below meth c T locs cells slots) (hexec : p.tables.exec = Jvm.exec) {own C : String} {index : Nat} {y : MethodName} {bytes : ByteArray} {maxL : Nat} {ret : Option FieldType} {hh : List (Nat × Nat × Nat × Nat)}
    (hown : s.vm.findClass own = some m.cls) (hlink : (Cond.methodLink own index y).before args s = true) (hinst : (Cond.instanceMethod y).before args s = true) (hsel : (Cond.selects C y y).before args s = true)
    (hcode : (Cond.codeWith y bytes maxL ret hh).before args s = true) (hy : y.cls ≠ "java/lang/invoke/MethodHandle" ∧ y.cls ≠ "java/lang/invoke/VarHandle")
    {W9 : Nat} {Pre : Pt → Array Value → Prop} {Post : Pt → Array Value → Option Value → Pt → Prop} {PostX : Pt → Array Value → Addr → Pt → Prop} (hK : vx_Back l R p e below s args y 3 W9 Pre Post PostX)
    {b : Addr} {cellB : Cell} (hcell : T.heap[b]? = some cellB) (hobj : cellB.vm.isStatics = false) (hcls : s.vm.findClass C = some cellB.cls)
    {g : JFrame} (hg : g.method = m) (hsize : g.locals.size = c.maxLocals) {argsL rest : List Value} (hlen : ∀ sig, parseMethodDescriptor y.desc = some sig → argsL.length = sig.parameters.length)
    (hstack : g.stack = argsL.reverse ++ .ref b :: rest) (hW : 2 * g.monitorRoom + (rest.map fun v => v.category).sum ≤ W9) (hdg : decode c.code g.pc = .ok (.invokevirtual index, 3))
    (hpre : ∀ vm₁, s.WarmedH vm₁ → Pre ⟨T.setVm vm₁, locs, cells, slots⟩ (Value.ref b :: argsL).toArray) :
    (∃ (v : Option Value) (vm₁ : Vm) (B : Pt), s.WarmedH vm₁ ∧ Stand p l e R s m args below meth c B.U B.locs B.cells B.slots ∧ Post ⟨T.setVm vm₁, locs, cells, slots⟩ (Value.ref b :: argsL).toArray v B ∧
      ∀ target, Steps p.tables e below (B.U.setTop { g with pc := g.pc + 3, stack := v.toList ++ rest }) target → Steps p.tables e below (T.setTop g) target) ∨
    (∃ (q : Addr) (vm₁ : Vm) (B : Pt), s.WarmedH vm₁ ∧ Stand p l e R s m args below meth c B.U B.locs B.cells B.slots ∧ PostX ⟨T.setVm vm₁, locs, cells, slots⟩ (Value.ref b :: argsL).toArray q B ∧
      Steps p.tables e below (T.setTop g) ((B.U.setTop { g with stack := rest }).pushFrame (.throwing q))) := by
  obtain ⟨mk, methM, hnamed, hmethM, hstM, habM⟩ := Cond.instanceMethod_spec hinst
  obtain ⟨m8, methM', cM, hn8, hmethM', -, -, -, -, -, -, hsigM⟩ := Cond.codeWith_spec hcode
  cases Option.some.inj (hn8.symm.trans hnamed)
  cases hmethM.symm.trans hmethM'
  obtain ⟨c2, r2, m2, q1, q2, q3, q4, kP, hkP, hkPi⟩ := Cond.selects_spec hsel
  cases hcls.symm.trans q1
  cases (State.methodFound?_of_named hnamed hy).symm.trans q2
  cases hnamed.symm.trans q3
  have hselP : selectMethod e.platform s.vm cellB.cls mk = .method mk := by rw [Launch.admits_selectMethod X.admits]; exact q4
  obtain ⟨vm₁, X₁, hstep₁⟩ := X.invokevirtual hexec hown hlink hnamed hmethM hstM hkP hkPi hy (a := b) (cell := cellB) hcell
    (fun z h => by rw [h] at hobj; cases hobj) hselP hmethM habM hkP hkPi (g := g) hg (argsL := argsL) (rest := rest) (hlen _ hsigM) hstack hdg
  rcases hK m meth c ⟨T.setVm vm₁, locs, cells, slots⟩ { g with stack := rest } (.invokevirtual index) mk (Value.ref b :: argsL).toArray X₁ hg hsize hdg hW (X₁.named hnamed) (hpre vm₁ X₁.warmed) with ⟨v, B, X', hpost, hsteps⟩ | ⟨q, B, X', hpost, hsteps⟩
  · exact Or.inl ⟨v, vm₁, B, X₁.warmed, X', hpost, fun target h => hstep₁ _ fun acts => by rw [doInvoke_state]; exact hsteps.trans h⟩
  · exact Or.inr ⟨q, vm₁, B, X₁.warmed, X', hpost, hstep₁ _ fun acts => by rw [doInvoke_state]; exact hsteps⟩
theorem vx_callSX (X : Stand p l e R s m args below meth c T locs cells slots) (hexec : p.tables.exec = Jvm.exec) {own : String} {index : Nat} {y : MethodName} {bytes : ByteArray} {maxL : Nat} {ret : Option FieldType} {hh : List (Nat × Nat × Nat × Nat)}
    (hown : s.vm.findClass own = some m.cls) (hlink : (Cond.methodLink own index y).before args s = true) (hstat : (Cond.static y).before args s = true) (hinit : (Cond.initialized y.cls).before args s = true)
    (hcode : (Cond.codeWith y bytes maxL ret hh).before args s = true) (hy : y.cls ≠ "java/lang/invoke/MethodHandle" ∧ y.cls ≠ "java/lang/invoke/VarHandle")
    {W9 : Nat} {Pre : Pt → Array Value → Prop} {Post : Pt → Array Value → Option Value → Pt → Prop} {PostX : Pt → Array Value → Addr → Pt → Prop} (hK : vx_Back l R p e below s args y 3 W9 Pre Post PostX)
    {g : JFrame} (hg : g.method = m) (hsize : g.locals.size = c.maxLocals) {argsL rest : List Value} (hlen : ∀ sig, parseMethodDescriptor y.desc = some sig → argsL.length = sig.parameters.length)
    (hstack : g.stack = argsL.reverse ++ rest) (hW : 2 * g.monitorRoom + (rest.map fun v => v.category).sum ≤ W9) (hdg : decode c.code g.pc = .ok (.invokestatic index, 3))
    (hpre : ∀ vm₁, s.WarmedH vm₁ → Pre ⟨T.setVm vm₁, locs, cells, slots⟩ argsL.toArray) :
    (∃ (v : Option Value) (vm₁ : Vm) (B : Pt), s.WarmedH vm₁ ∧ Stand p l e R s m args below meth c B.U B.locs B.cells B.slots ∧ Post ⟨T.setVm vm₁, locs, cells, slots⟩ argsL.toArray v B ∧
      ∀ target, Steps p.tables e below (B.U.setTop { g with pc := g.pc + 3, stack := v.toList ++ rest }) target → Steps p.tables e below (T.setTop g) target) ∨
    (∃ (q : Addr) (vm₁ : Vm) (B : Pt), s.WarmedH vm₁ ∧ Stand p l e R s m args below meth c B.U B.locs B.cells B.slots ∧ PostX ⟨T.setVm vm₁, locs, cells, slots⟩ argsL.toArray q B ∧
      Steps p.tables e below (T.setTop g) ((B.U.setTop { g with stack := rest }).pushFrame (.throwing q))) := by
  obtain ⟨mk, methM, cM, hnamed, hmethM, -, -, -, -, -, -, hsigM⟩ := Cond.codeWith_spec hcode
  have hstatic : methM.isStatic = true := Cond.static_spec hnamed hmethM hstat
  obtain ⟨kP, hkP, -⟩ := className_of_methodNamed hnamed
  have hinitP : kP.init = .initialized := Cond.initialized_spec (findClass_of_methodNamed hnamed) hkP hinit
  obtain ⟨vm₁, X₁, hstep₁⟩ := X.invokestatic hexec hown hlink hnamed hmethM hstatic hkP hinitP hy (g := g) hg (argsL := argsL) (rest := rest) (hlen _ hsigM) hstack hdg
  rcases hK m meth c ⟨T.setVm vm₁, locs, cells, slots⟩ { g with stack := rest } (.invokestatic index) mk argsL.toArray X₁ hg hsize hdg hW (X₁.named hnamed) (hpre vm₁ X₁.warmed) with ⟨v, B, X', hpost, hsteps⟩ | ⟨q, B, X', hpost, hsteps⟩
  · exact Or.inl ⟨v, vm₁, B, X₁.warmed, X', hpost, fun target h => hstep₁ _ fun acts => by rw [doInvoke_state]; exact hsteps.trans h⟩
  · exact Or.inr ⟨q, vm₁, B, X₁.warmed, X', hpost, hstep₁ _ fun acts => by rw [doInvoke_state]; exact hsteps⟩
theorem vx_callVW (X : Stand p l e R s m args below meth c T locs cells slots) (hexec : p.tables.exec = Jvm.exec) {own C : String} {index : Nat} {y : MethodName} {bytes : ByteArray} {maxL : Nat} {ret : Option FieldType} {hh : List (Nat × Nat × Nat × Nat)}
    (hown : s.vm.findClass own = some m.cls) (hlink : (Cond.methodLink own index y).before args s = true) (hinst : (Cond.instanceMethod y).before args s = true) (hsel : (Cond.selects C y y).before args s = true)
    (hcode : (Cond.codeWith y bytes maxL ret hh).before args s = true) (hy : y.cls ≠ "java/lang/invoke/MethodHandle" ∧ y.cls ≠ "java/lang/invoke/VarHandle")
    {W9 : Nat} {Pre : Pt → Array Value → Prop} {Post : Pt → Array Value → Option Value → Pt → Prop} (hK : Back l R p e below s args y 3 W9 Pre Post)
    {b : Addr} {cellB : Cell} (hcell : T.heap[b]? = some cellB) (hobj : cellB.vm.isStatics = false) (hcls : s.vm.findClass C = some cellB.cls)
    {g : JFrame} (hg : g.method = m) (hsize : g.locals.size = c.maxLocals) {argsL rest : List Value} (hlen : ∀ sig, parseMethodDescriptor y.desc = some sig → argsL.length = sig.parameters.length)
    (hstack : g.stack = argsL.reverse ++ .ref b :: rest) (hW : 2 * g.monitorRoom + (rest.map fun v => v.category).sum ≤ W9) (hdg : decode c.code g.pc = .ok (.invokevirtual index, 3))
    (hpre : ∀ vm₁, s.WarmedH vm₁ → Pre ⟨T.setVm vm₁, locs, cells, slots⟩ (Value.ref b :: argsL).toArray) :
    ∃ (v : Option Value) (vm₁ : Vm) (B : Pt), s.WarmedH vm₁ ∧ Stand p l e R s m args below meth c B.U B.locs B.cells B.slots ∧ Post ⟨T.setVm vm₁, locs, cells, slots⟩ (Value.ref b :: argsL).toArray v B ∧
      ∀ target, Steps p.tables e below (B.U.setTop { g with pc := g.pc + 3, stack := v.toList ++ rest }) target → Steps p.tables e below (T.setTop g) target := by
  obtain ⟨mk, methM, hnamed, hmethM, hstM, habM⟩ := Cond.instanceMethod_spec hinst
  obtain ⟨m8, methM', cM, hn8, hmethM', -, -, -, -, -, -, hsigM⟩ := Cond.codeWith_spec hcode
  cases Option.some.inj (hn8.symm.trans hnamed)
  cases hmethM.symm.trans hmethM'
  obtain ⟨c2, r2, m2, q1, q2, q3, q4, kP, hkP, hkPi⟩ := Cond.selects_spec hsel
  cases hcls.symm.trans q1
  cases (State.methodFound?_of_named hnamed hy).symm.trans q2
  cases hnamed.symm.trans q3
  have hselP : selectMethod e.platform s.vm cellB.cls mk = .method mk := by rw [Launch.admits_selectMethod X.admits]; exact q4
  obtain ⟨vm₁, X₁, hstep₁⟩ := X.invokevirtual hexec hown hlink hnamed hmethM hstM hkP hkPi hy (a := b) (cell := cellB) hcell
    (fun z h => by rw [h] at hobj; cases hobj) hselP hmethM habM hkP hkPi (g := g) hg (argsL := argsL) (rest := rest) (hlen _ hsigM) hstack hdg
  obtain ⟨v, B, X', hpost, hsteps⟩ := hK m meth c ⟨T.setVm vm₁, locs, cells, slots⟩ { g with stack := rest } (.invokevirtual index) mk (Value.ref b :: argsL).toArray X₁ hg hsize hdg hW (X₁.named hnamed) (hpre vm₁ X₁.warmed)
  exact ⟨v, vm₁, B, X₁.warmed, X', hpost, fun target h => hstep₁ _ fun acts => by rw [doInvoke_state]; exact hsteps.trans h⟩
abbrev vx_CVW (R : Room) (s : State) (args : Array Value) (own C : String) (index : Nat) (y : MethodName) (bytes : ByteArray) (maxL : Nat) (ret : Option FieldType) (hh : List (Nat × Nat × Nat × Nat)) (ws : List Cond) (rm : Room) (mc ms n : Nat) : Prop :=
  (rm.cells = mc ∧ rm.slots = ms ∧ rm.frames + 1 ≤ R.frames ∧ 8 + (maxL + 11) + rm.locals ≤ R.locals ∧ (∀ w ∈ ws, ∀ (a' : Array Value) (U : State), s.WarmedH U.vm → w.before a' U = true) ∧ Cond.codeWith y bytes maxL ret hh ∈ ws) ∧
  (Cond.codeWith y bytes maxL ret hh).before args s = true ∧ (Cond.initialized y.cls).before args s = true ∧ (y.cls ≠ "java/lang/invoke/MethodHandle" ∧ y.cls ≠ "java/lang/invoke/VarHandle") ∧
  (∀ sig, parseMethodDescriptor y.desc = some sig → n = sig.parameters.length) ∧ (Cond.methodLink own index y).before args s = true ∧ (Cond.instanceMethod y).before args s = true ∧ (Cond.selects C y y).before args s = true
theorem vx_cwVW {own C : String} {index maxL mc ms : Nat} {y : MethodName} {bytes : ByteArray} {ret : Option FieldType} {hh : List (Nat × Nat × Nat × Nat)} {Ts ws ws' : List Cond} {rm : Room} (n : Nat) (ht : ∀ w ∈ Ts, w.before args s = true) (hT : GoodIn Ts (wsV own index C y ws)) (hw : ws = Cond.codeWith y bytes maxL ret hh :: ws') (hrc : rm.cells = mc) (hrs : rm.slots = ms)
    (hd : y.cls = C ∧ y.cls ≠ "java/lang/invoke/MethodHandle" ∧ y.cls ≠ "java/lang/invoke/VarHandle" ∧ (parseMethodDescriptor y.desc).map (fun d => d.parameters.length) = some n) (hR : rm.frames + 1 ≤ R.frames ∧ 8 + (maxL + 11) + rm.locals ≤ R.locals) :
    vx_CVW R s args own C index y bytes maxL ret hh ws rm mc ms n := by
  obtain ⟨hC, hd⟩ := hd
  subst hC
  have ok : ∀ w ∈ wsV own index y.cls y ws, w.before args s = true := fun w h => ht w (hT w h).1
  have hG : GoodIn Ts ws := fun w h => hT w (by unfold wsV; exact List.mem_append_right _ h)
  have hc : Cond.codeWith y bytes maxL ret hh ∈ ws := by rw [hw]; exact List.mem_cons_self
  refine ⟨⟨hrc, hrs, hR.1, hR.2, pay_in ht hG, hc⟩, ht _ (hG _ hc).1, ok _ (by simp [wsV]), ⟨hd.1, hd.2.1⟩, fun sig h => ?_, ok _ (by simp [wsV]), ok _ (by simp [wsV]), ok _ (by simp [wsV])⟩
  have h2 := hd.2.2
  rw [h] at h2
  exact (Option.some.inj h2).symm
theorem vx_runVW {y : MethodName} {bytes cc : ByteArray} {maxL nL mc ms n index : Nat} {ret : Option FieldType} {hh : List (Nat × Nat × Nat × Nat)} {ws : List Cond} {rm : Room} {Pc : Array Value → State → Prop} {Qc : Array Value → State → Outcome → State → Prop} {free : Addr → Prop} {Ts : List Cond} {own C : String} {b : Addr} {As rest : List Value} {g : JFrame}
    (S : CallFix p m c cc nL s args Ts own) (hM : Met l y ws rm Pc Qc mc ms free) (cw : vx_CVW R s args own C index y bytes maxL ret hh ws rm mc ms n) (hp : PreV s H C b Pc As)
    (hg : g.method = m) (hn : As.length = n) (hsize : g.locals.size = nL) (hstack : g.stack = As.reverse ++ .ref b :: rest) (hW : 2 * g.monitorRoom + (rest.map fun v => v.category).sum ≤ 8) (hdg : decode cc g.pc = .ok (.invokevirtual index, 3)) (hf : cells + mc ≤ R.cells ∧ slots + ms ≤ R.slots) :
    va_Run p l e R s m args below meth c H locs cells slots mc ms g rest (Qc (Value.ref b :: As).toArray) free := by
  obtain ⟨⟨hrc, hrs, hfr, hlo, hws, hcw⟩, hcode, hini, hy, hlen, hl, hin, hse⟩ := cw
  have hK : Back l R p e below s args y 3 8 (PreOf R mc ms Pc) (PostOf Qc mc ms free) := va_backW (hh := hh) (bytes := bytes) (maxL := maxL) (ret := ret) hM hp.1 hrc hrs hfr hlo hws hcw (fun a' U hW => word_at hW (Or.inl (by first | rfl | simp [Cond.onTables, Cond.keeps, Cond.steady])) hini)
  obtain ⟨hx, hb, hml, ho, -⟩ := S
  obtain ⟨-, ⟨cellB, hcB, hoB, hclB⟩, hPc⟩ := hp
  intro T hT X
  obtain ⟨v, vm₁, ⟨U', l2, c2, s2⟩, hW₁, X', ⟨g', mk, t, L, e1, e2, hq, h1, hL, h2, h3⟩, st⟩ := vx_callVW X hx (C := C) (hh := hh) (bytes := bytes) (maxL := maxL) (ret := ret) ho hl hin hse hcode hy hK (by rw [hT]; exact hcB) hoB hclB hg (hsize.trans hml.symm) (argsL := As) (rest := rest) (fun sig h => hn.trans (hlen sig h)) hstack hW (by rw [hb]; exact hdg)
    (fun vm₁ hW₁ => ⟨hf.1, hf.2, hPc (T.setVm vm₁) hT hW₁⟩)
  dsimp only [Pt.U, Pt.locs, Pt.cells, Pt.slots] at X' e1 e2 h1 h2 h3 st
  subst h1; subst h2; subst h3
  exact ⟨v, (T.setVm vm₁).calling g' mk (Value.ref b :: As).toArray, t, U', L, hT, X', hL, e1, e2, hq, st⟩
section
variable {y : MethodName} {bytes cc : ByteArray} {maxL nL mc ms n index : Nat} {ret : Option FieldType} {ws : List Cond} {rm : Room} {Pc : Array Value → State → Prop} {Qc : Array Value → State → Outcome → State → Prop} {XC : String → State → State → Prop} {free : Addr → Prop} {Ts : List Cond} {own C : String} {b : Addr} {As rest : List Value} {g : JFrame}
theorem vx_runVX {hh : List (Nat × Nat × Nat × Nat)} (S : CallFix p m c cc nL s args Ts own) (hM : vx_Met l y ws rm Pc Qc XC mc ms free) (cw : vx_CVW R s args own C index y bytes maxL ret hh ws rm mc ms n) (hp : PreV s H C b Pc As)
    (hg : g.method = m) (hn : As.length = n) (hsize : g.locals.size = nL) (hstack : g.stack = As.reverse ++ .ref b :: rest) (hW : 2 * g.monitorRoom + (rest.map fun v => v.category).sum ≤ 8) (hdg : decode cc g.pc = .ok (.invokevirtual index, 3)) (hf : cells + mc ≤ R.cells ∧ slots + ms ≤ R.slots) :
    vx_Run p l e R s m args below meth c H locs cells slots mc ms g rest (Qc (Value.ref b :: As).toArray) XC free := by
  obtain ⟨⟨hrc, hrs, hfr, hlo, hws, hcw⟩, hcode, hini, hy, hlen, hl, hin, hse⟩ := cw
  have hK : vx_Back l R p e below s args y 3 8 (PreOf R mc ms Pc) (PostOf Qc mc ms free) (vx_Post XC mc ms free) := vx_backW (hh := hh) (bytes := bytes) (maxL := maxL) (ret := ret) hM hp.1 hrc hrs hfr hlo hws hcw (fun a' U hW => word_at hW (Or.inl (by first | rfl | simp [Cond.onTables, Cond.keeps, Cond.steady])) hini)
  obtain ⟨hx, hb, hml, ho, -⟩ := S
  obtain ⟨-, ⟨cellB, hcB, hoB, hclB⟩, hPc⟩ := hp
  intro T hT X
  rcases vx_callVX X hx (C := C) (hh := hh) (bytes := bytes) (maxL := maxL) (ret := ret) ho hl hin hse hcode hy hK (by rw [hT]; exact hcB) hoB hclB hg (hsize.trans hml.symm) (argsL := As) (rest := rest) (fun sig h => hn.trans (hlen sig h)) hstack hW (by rw [hb]; exact hdg)
    (fun vm₁ hW₁ => ⟨hf.1, hf.2, hPc (T.setVm vm₁) hT hW₁⟩) with ⟨v, vm₁, ⟨U', l2, c2, s2⟩, hW₁, X', ⟨g', mk, t, L, e1, e2, hq, h1, hL, h2, h3⟩, st⟩ | ⟨q, vm₁, ⟨U', l2, c2, s2⟩, hW₁, X', ⟨g', mk, t, L, E, ce, e1, e2, hq, hce, hcv, hcl, h1, hL, h2, h3⟩, st⟩
  · dsimp only [Pt.U, Pt.locs, Pt.cells, Pt.slots] at X' e1 e2 h1 h2 h3 st
    subst h1; subst h2; subst h3
    exact Or.inl ⟨v, (T.setVm vm₁).calling g' mk (Value.ref b :: As).toArray, t, U', L, hT, X', hL, e1, e2, hq, st⟩
  · dsimp only [Pt.U, Pt.locs, Pt.cells, Pt.slots] at X' e1 e2 h1 h2 h3 st hcl
    subst h1; subst h2; subst h3
    exact Or.inr ⟨q, (T.setVm vm₁).calling g' mk (Value.ref b :: As).toArray, t, U', L, E, ce, hT, X', hL, e1, e2, hq, hce, hcv, vx_cls hW₁ hcl, st⟩
theorem vx_runSX {hh : List (Nat × Nat × Nat × Nat)} (S : CallFix p m c cc nL s args Ts own) (hM : vx_Met l y ws rm Pc Qc XC mc ms free) (cw : vx_CSW R s args own index y bytes maxL ret hh ws rm mc ms n) (hp : PreS s H Pc As)
    (hg : g.method = m) (hn : As.length = n) (hsize : g.locals.size = nL) (hstack : g.stack = As.reverse ++ rest) (hW : 2 * g.monitorRoom + (rest.map fun v => v.category).sum ≤ 8) (hdg : decode cc g.pc = .ok (.invokestatic index, 3)) (hf : cells + mc ≤ R.cells ∧ slots + ms ≤ R.slots) :
    vx_Run p l e R s m args below meth c H locs cells slots mc ms g rest (Qc As.toArray) XC free := by
  obtain ⟨⟨hrc, hrs, hfr, hlo, hws, hcw⟩, hcode, hini, hy, hlen, hl, hstt⟩ := cw
  have hK : vx_Back l R p e below s args y 3 8 (PreOf R mc ms Pc) (PostOf Qc mc ms free) (vx_Post XC mc ms free) := vx_backW (hh := hh) (bytes := bytes) (maxL := maxL) (ret := ret) hM hp.1 hrc hrs hfr hlo hws hcw (fun a' U hW => word_at hW (Or.inl (by first | rfl | simp [Cond.onTables, Cond.keeps, Cond.steady])) hini)
  obtain ⟨hx, hb, hml, ho, -⟩ := S
  intro T hT X
  rcases vx_callSX X hx (hh := hh) (bytes := bytes) (maxL := maxL) (ret := ret) ho hl hstt hini hcode hy hK hg (hsize.trans hml.symm) (argsL := As) (rest := rest) (fun sig h => hn.trans (hlen sig h)) hstack hW (by rw [hb]; exact hdg)
    (fun vm₁ hW₁ => ⟨hf.1, hf.2, hp.2 (T.setVm vm₁) hT hW₁⟩) with ⟨v, vm₁, ⟨U', l2, c2, s2⟩, hW₁, X', ⟨g', mk, t, L, e1, e2, hq, h1, hL, h2, h3⟩, st⟩ | ⟨q, vm₁, ⟨U', l2, c2, s2⟩, hW₁, X', ⟨g', mk, t, L, E, ce, e1, e2, hq, hce, hcv, hcl, h1, hL, h2, h3⟩, st⟩
  · dsimp only [Pt.U, Pt.locs, Pt.cells, Pt.slots] at X' e1 e2 h1 h2 h3 st
    subst h1; subst h2; subst h3
    exact Or.inl ⟨v, (T.setVm vm₁).calling g' mk As.toArray, t, U', L, hT, X', hL, e1, e2, hq, st⟩
  · dsimp only [Pt.U, Pt.locs, Pt.cells, Pt.slots] at X' e1 e2 h1 h2 h3 st hcl
    subst h1; subst h2; subst h3
    exact Or.inr ⟨q, (T.setVm vm₁).calling g' mk As.toArray, t, U', L, E, ce, hT, X', hL, e1, e2, hq, hce, hcv, vx_cls hW₁ hcl, st⟩
end
end VXH
theorem vx_ofWH {l : Launch} {y : MethodName} {ws ws' : List Cond} {rm : Room} {Pc : Array Value → State → Prop} {Qc : Array Value → State → Outcome → State → Prop} {XC : String → State → State → Prop} {mc ms : Nat} {free : Addr → Prop} {cc : ByteArray} {maxL : Nat} {ret : Option FieldType} {hh : List (Nat × Nat × Nat × Nat)}
    (hy : plainName y.cls = true) (hw : ws = Cond.codeWith y cc maxL ret hh :: ws')
    (body : ∀ p e s m args below meth c s₁, BodyLoose p l y (headSpec ws rm) cc maxL ret e s m args below meth c s₁ → c.maxLocals = maxL → Pc args s →
      W p l e (headSpec ws rm).room s m args below meth c s.heap [] 0 0 (vx_MQ below Qc XC args s mc ms free) (entryFrame m args maxL)) : vx_Met l y ws rm Pc Qc XC mc ms free := by
  refine MetFree.of_bodyS (code := cc) (maxLocals := maxL) (ret := ret) hy ?_ ?_
  · intro args s m h hn
    obtain ⟨m9, meth, c, hn9, h1, h2, h3, h4, -, h5, h6, -⟩ := Cond.codeWith_spec (atoms_spec (ws := ws) h _ (by rw [hw]; exact List.mem_cons_self))
    cases hn.symm.trans hn9
    exact ⟨meth, c, h1, h2, h3, h4, h5, h6⟩
  · intro p e s m args below meth c s₁ B hml hP _
    have hh0 : s₁.heap = s.heap := by rw [B.state]; rfl
    obtain ⟨t, a1, o, b1, b2, b3⟩ := body p e s m args below meth c s₁ B hml hP s₁ hh0 (Stand.of_body B)
    exact ⟨t, o, a1, b1, b2, b3⟩
/-! ===== END ===== -/

/-! ===== BEGIN printed: names, fields, word lists, decode rows ===== -/
end
section
/-! THE PURE MACHINE: a method's frame over a fixed world of cells, numbers as Int. A place in a method is the instruction's number in its listing. -/
section Abs
/-- a value: a number, a cell of the world by its place, a long -/
abbrev ab_V : Type := Int ⊕ (Nat ⊕ Int)
/-- what the world's cells hold: cell, place, number -/
abbrev ab_S : Type := Nat → Int → Int
/-- how a method ends: nothing, a value, or an exception by its number -/
abbrev ab_O : Type := Option ab_V ⊕ Nat
abbrev vI (x : Int) : ab_V := Sum.inl x
abbrev vR (k : Nat) : ab_V := Sum.inr (Sum.inl k)
abbrev vJ (x : Int) : ab_V := Sum.inr (Sum.inr x)
abbrev oI (x : Int) : ab_O := Sum.inl (some (Sum.inl x))
abbrev oV : ab_O := Sum.inl none
abbrev oX (n : Nat) : ab_O := Sum.inr n
def ab_up (h : ab_S) (k : Nat) (i v : Int) : ab_S := fun k' i' => if k' = k then (if i' = i then v else h k' i') else h k' i'
/-- m numbers of the cell k from p on go to the cell d from q on -/
def ab_cp (h : ab_S) (k : Nat) (p : Int) (d : Nat) (q m : Int) : ab_S := fun k' i' => if k' = d then (if q ≤ i' ∧ i' < q + m then h k (p + (i' - q)) else h k' i') else h k' i'
def ab_rg (x : Int) : Prop := -2147483648 ≤ x ∧ x ≤ 2147483647
def b_and (x y : Int) : Int := (Int32.ofInt x &&& Int32.ofInt y).toInt
def b_or (x y : Int) : Int := (Int32.ofInt x ||| Int32.ofInt y).toInt
def b_xor (x y : Int) : Int := (Int32.ofInt x ^^^ Int32.ofInt y).toInt
def b_shl (x y : Int) : Int := (Int32.ofInt x <<< (Int32.ofInt y &&& 31)).toInt
def b_shr (x y : Int) : Int := (Int32.ofInt x >>> (Int32.ofInt y &&& 31)).toInt
def b_ushr (x y : Int) : Int := ((Int32.ofInt x).toUInt32 >>> ((Int32.ofInt y).toUInt32 &&& Int32.toUInt32 31)).toInt32.toInt
def ab_lc (x y : Int) : Int := if x < y then -1 else if x = y then 0 else 1
def ab_nth : List ab_V → Nat → ab_V
  | [], _ => Sum.inr (Sum.inr 0)
  | v :: _, 0 => v
  | _ :: t, n + 1 => ab_nth t n
def ab_st : List ab_V → Nat → ab_V → List ab_V
  | [], _, _ => []
  | _ :: t, 0, x => x :: t
  | v :: t, n + 1, x => v :: ab_st t n x
def ab_cmp (c : Jvm.ClassFile.Cond) (x y : Int) : Prop := match c with
  | .eq => x = y
  | .ne => ¬ x = y
  | .lt => x < y
  | .ge => y ≤ x
  | .gt => y < x
  | .le => x ≤ y
/-- a row of a listing: byte, instruction, length, two numbers of ours (a field's declarer and place; a branch's aim; a callee) -/
abbrev ab_I : Type := Nat × Instr × Nat × Nat × Nat
/-- a cell's kind: 0 ints, 1 booleans, 2 longs (with the length), 3 an object (with its class and its fields: a cell for ever, or a number) -/
abbrev ab_D : Type := Nat × Nat × List (Option Nat)
def ab_nd : List ab_D → Nat → ab_D
  | [], _ => (9, 0, [])
  | v :: _, 0 => v
  | _ :: t, n + 1 => ab_nd t n
def ab_nf : List (Option Nat) → Nat → Option (Option Nat)
  | [], _ => none
  | v :: _, 0 => some v
  | _ :: t, n + 1 => ab_nf t n
abbrev ab_gI (v : ab_V) (f : Int → Prop) : Prop := match v with
  | Sum.inl x => f x
  | _ => False
abbrev ab_gR (v : ab_V) (f : Nat → Prop) : Prop := match v with
  | Sum.inr (Sum.inl k) => f k
  | _ => False
abbrev ab_p1 (st : List ab_V) (f : ab_V → List ab_V → Prop) : Prop := match st with
  | Sum.inl x :: t => f (Sum.inl x) t
  | Sum.inr (Sum.inl k) :: t => f (Sum.inr (Sum.inl k)) t
  | _ => False
abbrev ab_pI (st : List ab_V) (f : Int → List ab_V → Prop) : Prop := match st with
  | Sum.inl x :: t => f x t
  | _ => False
abbrev ab_pJ (st : List ab_V) (f : Int → List ab_V → Prop) : Prop := match st with
  | Sum.inr (Sum.inr x) :: t => f x t
  | _ => False
abbrev ab_pR (st : List ab_V) (f : Nat → List ab_V → Prop) : Prop := match st with
  | Sum.inr (Sum.inl k) :: t => f k t
  | _ => False
abbrev ab_p2 (st : List ab_V) (f : Int → Int → List ab_V → Prop) : Prop := match st with
  | Sum.inl y :: Sum.inl x :: t => f x y t
  | _ => False
end Abs
end
section
/-! By program (wip/gen): the tables of the pure machine: classes, fields, calls, throws, the world, the methods' listings. -/
def ab_cn : List String := ["ParserProof$Automaton", "ParserProof$Builder", "ParserProof$Checker", "ParserProof$Grammar", "ParserProof$Parser", "ParserProof", "ParserProofModel", "ParserProofLaw", "java/util/Arrays"]
def ab_xn : List String := ["java/lang/IllegalArgumentException", "java/lang/IllegalStateException", "java/lang/IndexOutOfBoundsException", "java/lang/UnsupportedOperationException"]
/-- a field's name in a pool: own class, index, declarer, place -/
def ab_FT : List (Nat × Nat × Nat × Nat) := [(5, 12, 5, 0), (5, 57, 3, 0), (5, 28, 5, 2), (5, 19, 5, 1), (5, 82, 0, 0), (5, 42, 5, 4), (5, 35, 5, 3), (5, 132, 4, 3), (5, 143, 4, 9), (5, 156, 4, 7), (5, 179, 3, 2), (6, 75, 6, 0), (6, 78, 6, 19), (6, 82, 6, 22), (6, 38, 6, 13), (6, 42, 6, 14), (6, 45, 6, 15), (6, 48, 6, 16), (6, 89, 6, 1), (6, 7, 6, 2), (6, 13, 6, 3), (6, 16, 6, 4), (6, 95, 6, 7), (6, 19, 6, 5), (6, 23, 6, 6), (6, 26, 6, 8), (6, 32, 6, 10), (6, 35, 6, 11), (6, 124, 6, 12), (6, 29, 6, 9), (6, 188, 6, 17), (6, 51, 6, 18), (6, 60, 6, 25), (6, 63, 6, 26), (6, 66, 6, 27), (6, 69, 6, 28), (6, 72, 6, 29), (6, 191, 6, 21), (6, 54, 6, 23), (6, 57, 6, 24), (6, 194, 6, 20), (0, 9, 0, 1), (0, 15, 0, 2), (0, 30, 0, 0), (1, 15, 1, 0), (1, 9, 1, 2), (1, 19, 1, 1), (1, 55, 0, 0), (1, 74, 3, 2), (1, 97, 3, 0), (1, 98, 3, 1), (2, 11, 2, 2), (2, 19, 2, 1), (2, 15, 2, 0), (2, 55, 0, 0), (2, 66, 3, 2), (2, 81, 3, 1), (2, 110, 3, 0), (3, 36, 3, 0), (3, 9, 3, 1), (3, 15, 3, 2), (3, 18, 3, 3), (3, 21, 3, 4), (3, 25, 3, 5), (4, 9, 4, 2), (4, 32, 4, 3), (4, 36, 4, 7), (4, 39, 4, 9), (4, 21, 4, 8), (4, 42, 4, 4), (4, 15, 4, 5), (4, 28, 4, 1), (4, 24, 4, 0), (4, 86, 3, 1), (4, 92, 3, 2), (4, 18, 4, 6)]
/-- a call's name in a pool: own class, kind (0 virtual, 1 static, 2 static of a nest mate), index, method -/
def ab_CT : List (Nat × Nat × Nat × Nat) := [(5, 1, 46, 106), (5, 0, 66, 16), (5, 0, 69, 107), (5, 0, 73, 108), (5, 0, 78, 85), (5, 0, 88, 19), (5, 0, 92, 78), (5, 0, 96, 22), (5, 0, 101, 79), (5, 0, 105, 116), (5, 0, 108, 20), (5, 0, 112, 81), (5, 0, 116, 82), (5, 0, 119, 17), (5, 0, 122, 95), (5, 0, 126, 94), (5, 1, 129, 24), (5, 0, 135, 115), (5, 0, 140, 118), (5, 0, 153, 117), (5, 0, 159, 92), (5, 0, 164, 18), (5, 0, 170, 21), (5, 0, 176, 109), (6, 0, 85, 29), (6, 0, 92, 33), (6, 0, 98, 30), (6, 0, 101, 31), (6, 0, 105, 35), (6, 0, 108, 36), (6, 0, 112, 37), (6, 0, 116, 38), (6, 1, 120, 41), (6, 0, 127, 40), (6, 0, 130, 43), (6, 0, 134, 44), (6, 0, 137, 45), (6, 0, 140, 46), (6, 0, 144, 39), (6, 0, 147, 47), (6, 0, 151, 48), (6, 0, 154, 51), (6, 1, 157, 52), (6, 0, 160, 55), (6, 0, 163, 42), (6, 0, 166, 58), (6, 0, 169, 59), (6, 0, 172, 60), (6, 0, 176, 62), (6, 0, 179, 63), (6, 0, 182, 64), (6, 0, 185, 61), (6, 0, 197, 69), (6, 0, 201, 70), (6, 0, 204, 71), (6, 0, 207, 72), (6, 0, 210, 73), (0, 2, 18, 27), (0, 0, 22, 80), (0, 2, 26, 26), (0, 0, 34, 83), (0, 0, 44, 79), (1, 0, 23, 114), (1, 1, 28, 137), (1, 0, 34, 109), (1, 2, 38, 27), (1, 2, 42, 26), (1, 0, 46, 88), (1, 0, 49, 84), (1, 0, 59, 86), (1, 0, 63, 91), (1, 0, 66, 87), (1, 0, 70, 79), (1, 0, 77, 80), (1, 0, 81, 111), (1, 0, 84, 89), (1, 2, 88, 23), (1, 0, 91, 113), (1, 0, 94, 90), (1, 0, 101, 78), (2, 0, 29, 93), (2, 0, 33, 92), (2, 0, 36, 97), (2, 0, 40, 96), (2, 0, 43, 109), (2, 0, 49, 81), (2, 0, 59, 99), (2, 0, 63, 100), (2, 0, 69, 80), (2, 2, 73, 26), (2, 0, 77, 98), (2, 0, 84, 78), (2, 2, 88, 25), (2, 0, 91, 101), (2, 0, 94, 102), (2, 0, 97, 103), (2, 0, 101, 111), (2, 2, 104, 23), (2, 0, 107, 113), (3, 1, 28, 104), (3, 1, 32, 105), (3, 0, 40, 110), (3, 0, 44, 111), (3, 2, 47, 23), (3, 2, 51, 26), (3, 0, 54, 112), (3, 0, 57, 113), (4, 0, 45, 119), (4, 0, 49, 78), (4, 2, 55, 25), (4, 0, 59, 120), (4, 0, 62, 126), (4, 0, 66, 121), (4, 0, 70, 124), (4, 0, 74, 125), (4, 0, 78, 109), (4, 0, 83, 122), (4, 0, 89, 123), (4, 0, 95, 117), (4, 0, 98, 111), (4, 0, 101, 110), (7, 0, 7, 0), (7, 0, 17, 2), (7, 0, 23, 4), (7, 0, 29, 5), (7, 0, 33, 6), (7, 0, 37, 7), (7, 0, 40, 8), (7, 0, 43, 12), (7, 0, 46, 14), (7, 1, 53, 127), (7, 0, 58, 32), (7, 0, 59, 28), (7, 0, 62, 1), (7, 0, 65, 34), (7, 1, 66, 128), (7, 0, 69, 49), (7, 0, 70, 3), (7, 0, 73, 50), (7, 1, 74, 129), (7, 0, 77, 53), (7, 1, 78, 130), (7, 0, 81, 54), (7, 1, 82, 131), (7, 0, 85, 56), (7, 1, 86, 132), (7, 0, 88, 57), (7, 1, 89, 133), (7, 0, 91, 65), (7, 0, 92, 9), (7, 0, 95, 66), (7, 0, 96, 10), (7, 0, 99, 67), (7, 0, 100, 11), (7, 0, 103, 68), (7, 1, 104, 134), (7, 0, 106, 74), (7, 0, 107, 13), (7, 0, 110, 75), (7, 1, 111, 135), (7, 0, 113, 76), (7, 0, 114, 15), (7, 0, 117, 77)]
/-- a throw: own class, the three indexes, the exception -/
def ab_TH : List (Nat × Nat × Nat × Nat × Nat) := [(5, 50, 52, 54, 0), (5, 61, 63, 65, 1), (5, 61, 76, 65, 1), (5, 83, 85, 87, 3), (5, 50, 99, 54, 0), (5, 50, 138, 54, 0), (5, 146, 148, 150, 2), (5, 50, 151, 54, 0), (5, 61, 160, 65, 1), (5, 146, 162, 150, 2), (5, 146, 168, 150, 2), (5, 50, 174, 54, 0)]
def ab_lay : List ab_D := [(3, 5, [some 1, some 2, some 3, some 4, some 5]), (3, 3, [none, some 7, some 8, some 9, some 10, some 11]), (3, 0, [none, some 12, some 13]), (3, 1, [some 1, some 2, some 14]), (3, 2, [some 1, some 2, some 15]), (3, 4, [some 1, some 2, some 16, none, none, some 17, some 18, none, some 19, none]), (3, 6, [none, none, some 20, some 21, some 22, some 23, some 24, none, some 25, some 26, some 27, some 28, none, none, none, none, none, none, some 29, none, none, none, none, some 30, some 31, some 32, some 33, some 34, some 35, some 36]), (0, 8, []), (0, 9, []), (0, 36, []), (1, 4, []), (0, 4, []), (0, 500, []), (0, 2250, []), (0, 45, []), (0, 4, []), (0, 20, []), (0, 61, []), (0, 61, []), (0, 300, []), (0, 8, []), (0, 8, []), (0, 32, []), (1, 4, []), (1, 81, []), (1, 13500, []), (0, 500, []), (1, 270, []), (0, 270, []), (0, 20, []), (0, 61, []), (0, 61, []), (0, 60, []), (0, 60, []), (0, 60, []), (0, 60, []), (0, 60, []), (2, 1, [])]
/-- ParserProof.rule(I)I -/
def L_0 : List ab_I := [(0, .iload_n 1, 1, 0, 0), (1, .invokestatic 46, 3, 106, 0), (4, .ifCond .ne 13, 3, 8, 0), (7, .new 50, 3, 0, 0), (10, .dup, 1, 0, 0), (11, .ldc 52, 2, 0, 0), (13, .invokespecial 54, 3, 0, 0), (16, .athrow, 1, 0, 0), (17, .aload_n 0, 1, 0, 0), (18, .getfield 12, 3, 5, 0), (21, .getfield 57, 3, 3, 0), (24, .bipush 8, 2, 0, 0), (26, .if_icmp .lt 13, 3, 18, 0), (29, .new 61, 3, 0, 0), (32, .dup, 1, 0, 0), (33, .ldc 63, 2, 0, 0), (35, .invokespecial 65, 3, 0, 0), (38, .athrow, 1, 0, 0), (39, .aload_n 0, 1, 0, 0), (40, .invokevirtual 66, 3, 16, 0), (43, .aload_n 0, 1, 0, 0), (44, .getfield 12, 3, 5, 0), (47, .iload_n 1, 1, 0, 0), (48, .invokevirtual 69, 3, 107, 0), (51, .ireturn, 1, 0, 0)]
/-- ParserProof.clear()V -/
def L_1 : List ab_I := [(0, .aload_n 0, 1, 0, 0), (1, .invokevirtual 66, 3, 16, 0), (4, .aload_n 0, 1, 0, 0), (5, .getfield 12, 3, 5, 0), (8, .invokevirtual 73, 3, 108, 0), (11, .return_, 1, 0, 0)]
/-- ParserProof.build()I -/
def L_2 : List ab_I := [(0, .aload_n 0, 1, 0, 0), (1, .getfield 12, 3, 5, 0), (4, .getfield 57, 3, 3, 0), (7, .ifCond .ne 13, 3, 9, 0), (10, .new 61, 3, 0, 0), (13, .dup, 1, 0, 0), (14, .ldc 76, 2, 0, 0), (16, .invokespecial 65, 3, 0, 0), (19, .athrow, 1, 0, 0), (20, .aload_n 0, 1, 0, 0), (21, .invokevirtual 66, 3, 16, 0), (24, .aload_n 0, 1, 0, 0), (25, .getfield 28, 3, 5, 2), (28, .invokevirtual 78, 3, 85, 0), (31, .ifCond .ne 21, 3, 24, 0), (34, .aload_n 0, 1, 0, 0), (35, .getfield 19, 3, 5, 1), (38, .iconst 0, 1, 0, 0), (39, .putfield 82, 3, 0, 0), (42, .new 83, 3, 0, 0), (45, .dup, 1, 0, 0), (46, .ldc 85, 2, 0, 0), (48, .invokespecial 87, 3, 0, 0), (51, .athrow, 1, 0, 0), (52, .aload_n 0, 1, 0, 0), (53, .getfield 19, 3, 5, 1), (56, .getfield 82, 3, 0, 0), (59, .ireturn, 1, 0, 0)]
/-- ParserProof.states()I -/
def L_3 : List ab_I := [(0, .aload_n 0, 1, 0, 0), (1, .getfield 19, 3, 5, 1), (4, .getfield 82, 3, 0, 0), (7, .ireturn, 1, 0, 0)]
/-- ParserProof.entry(II)I -/
def L_4 : List ab_I := [(0, .aload_n 0, 1, 0, 0), (1, .iload_n 1, 1, 0, 0), (2, .iload_n 2, 1, 0, 0), (3, .invokevirtual 88, 3, 19, 0), (6, .aload_n 0, 1, 0, 0), (7, .getfield 19, 3, 5, 1), (10, .iload_n 1, 1, 0, 0), (11, .iload_n 2, 1, 0, 0), (12, .invokevirtual 92, 3, 78, 0), (15, .ireturn, 1, 0, 0)]
/-- ParserProof.set(III)V -/
def L_5 : List ab_I := [(0, .aload_n 0, 1, 0, 0), (1, .iload_n 1, 1, 0, 0), (2, .iload_n 2, 1, 0, 0), (3, .invokevirtual 88, 3, 19, 0), (6, .aload_n 0, 1, 0, 0), (7, .iload_n 3, 1, 0, 0), (8, .invokevirtual 96, 3, 22, 0), (11, .ifCond .ne 13, 3, 13, 0), (14, .new 50, 3, 0, 0), (17, .dup, 1, 0, 0), (18, .ldc 99, 2, 0, 0), (20, .invokespecial 54, 3, 0, 0), (23, .athrow, 1, 0, 0), (24, .aload_n 0, 1, 0, 0), (25, .getfield 19, 3, 5, 1), (28, .iload_n 1, 1, 0, 0), (29, .iload_n 2, 1, 0, 0), (30, .iload_n 3, 1, 0, 0), (31, .invokevirtual 101, 3, 79, 0), (34, .aload_n 0, 1, 0, 0), (35, .getfield 42, 3, 5, 4), (38, .invokevirtual 105, 3, 116, 0), (41, .return_, 1, 0, 0)]
/-- ParserProof.has(IIII)Z -/
def L_6 : List ab_I := [(0, .aload_n 0, 1, 0, 0), (1, .iload_n 1, 1, 0, 0), (2, .iload_n 2, 1, 0, 0), (3, .iload_n 3, 1, 0, 0), (4, .iload 4, 2, 0, 0), (6, .invokevirtual 108, 3, 20, 0), (9, .aload_n 0, 1, 0, 0), (10, .getfield 19, 3, 5, 1), (13, .iload_n 1, 1, 0, 0), (14, .iload_n 2, 1, 0, 0), (15, .iload_n 3, 1, 0, 0), (16, .iload 4, 2, 0, 0), (18, .invokevirtual 112, 3, 81, 0), (21, .ireturn, 1, 0, 0)]
/-- ParserProof.turn(IIII)Z -/
def L_7 : List ab_I := [(0, .aload_n 0, 1, 0, 0), (1, .iload_n 1, 1, 0, 0), (2, .iload_n 2, 1, 0, 0), (3, .iload_n 3, 1, 0, 0), (4, .iload 4, 2, 0, 0), (6, .invokevirtual 108, 3, 20, 0), (9, .aload_n 0, 1, 0, 0), (10, .getfield 19, 3, 5, 1), (13, .iload_n 1, 1, 0, 0), (14, .iload_n 2, 1, 0, 0), (15, .iload_n 3, 1, 0, 0), (16, .iload 4, 2, 0, 0), (18, .invokevirtual 116, 3, 82, 0), (21, .aload_n 0, 1, 0, 0), (22, .getfield 19, 3, 5, 1), (25, .iload_n 1, 1, 0, 0), (26, .iload_n 2, 1, 0, 0), (27, .iload_n 3, 1, 0, 0), (28, .iload 4, 2, 0, 0), (30, .invokevirtual 112, 3, 81, 0), (33, .ireturn, 1, 0, 0)]
/-- ParserProof.check()I -/
def L_8 : List ab_I := [(0, .aload_n 0, 1, 0, 0), (1, .invokevirtual 119, 3, 17, 0), (4, .aload_n 0, 1, 0, 0), (5, .getfield 35, 3, 5, 3), (8, .invokevirtual 122, 3, 95, 0), (11, .ireturn, 1, 0, 0)]
/-- ParserProof.fault(I)I -/
def L_9 : List ab_I := [(0, .aload_n 0, 1, 0, 0), (1, .getfield 35, 3, 5, 3), (4, .iload_n 1, 1, 0, 0), (5, .invokevirtual 126, 3, 94, 0), (8, .ireturn, 1, 0, 0)]
/-- ParserProof.feed(I)I -/
def L_10 : List ab_I := [(0, .iload_n 1, 1, 0, 0), (1, .invokestatic 129, 3, 24, 0), (4, .ifCond .eq 15, 3, 8, 0), (7, .aload_n 0, 1, 0, 0), (8, .getfield 42, 3, 5, 4), (11, .getfield 132, 3, 4, 3), (14, .bipush 20, 2, 0, 0), (16, .if_icmp .lt 5, 3, 10, 0), (19, .iconst (-1), 1, 0, 0), (20, .ireturn, 1, 0, 0), (21, .aload_n 0, 1, 0, 0), (22, .getfield 42, 3, 5, 4), (25, .invokevirtual 105, 3, 116, 0), (28, .aload_n 0, 1, 0, 0), (29, .getfield 42, 3, 5, 4), (32, .iload_n 1, 1, 0, 0), (33, .invokevirtual 135, 3, 115, 0), (36, .ireturn, 1, 0, 0)]
/-- ParserProof.empty()V -/
def L_11 : List ab_I := [(0, .aload_n 0, 1, 0, 0), (1, .getfield 42, 3, 5, 4), (4, .invokevirtual 105, 3, 116, 0), (7, .aload_n 0, 1, 0, 0), (8, .getfield 42, 3, 5, 4), (11, .iconst 0, 1, 0, 0), (12, .putfield 132, 3, 4, 3), (15, .return_, 1, 0, 0)]
/-- ParserProof.parse(I)I -/
def L_12 : List ab_I := [(0, .aload_n 0, 1, 0, 0), (1, .invokevirtual 119, 3, 17, 0), (4, .iload_n 1, 1, 0, 0), (5, .ifCond .lt 10, 3, 7, 0), (8, .iload_n 1, 1, 0, 0), (9, .sipush 400, 3, 0, 0), (12, .if_icmp .le 13, 3, 12, 0), (15, .new 50, 3, 0, 0), (18, .dup, 1, 0, 0), (19, .ldc 138, 2, 0, 0), (21, .invokespecial 54, 3, 0, 0), (24, .athrow, 1, 0, 0), (25, .aload_n 0, 1, 0, 0), (26, .getfield 42, 3, 5, 4), (29, .iload_n 1, 1, 0, 0), (30, .invokevirtual 140, 3, 118, 0), (33, .ireturn, 1, 0, 0)]
/-- ParserProof.nodes()I -/
def L_13 : List ab_I := [(0, .aload_n 0, 1, 0, 0), (1, .getfield 42, 3, 5, 4), (4, .getfield 143, 3, 4, 9), (7, .ireturn, 1, 0, 0)]
/-- ParserProof.node(II)I -/
def L_14 : List ab_I := [(0, .iload_n 1, 1, 0, 0), (1, .ifCond .lt 14, 3, 7, 0), (4, .iload_n 1, 1, 0, 0), (5, .aload_n 0, 1, 0, 0), (6, .getfield 42, 3, 5, 4), (9, .getfield 143, 3, 4, 9), (12, .if_icmp .lt 13, 3, 12, 0), (15, .new 146, 3, 0, 0), (18, .dup, 1, 0, 0), (19, .ldc 148, 2, 0, 0), (21, .invokespecial 150, 3, 0, 0), (24, .athrow, 1, 0, 0), (25, .iload_n 2, 1, 0, 0), (26, .ifCond .lt 8, 3, 17, 0), (29, .iload_n 2, 1, 0, 0), (30, .iconst 5, 1, 0, 0), (31, .if_icmp .lt 13, 3, 22, 0), (34, .new 50, 3, 0, 0), (37, .dup, 1, 0, 0), (38, .ldc 151, 2, 0, 0), (40, .invokespecial 54, 3, 0, 0), (43, .athrow, 1, 0, 0), (44, .aload_n 0, 1, 0, 0), (45, .getfield 42, 3, 5, 4), (48, .iload_n 1, 1, 0, 0), (49, .iload_n 2, 1, 0, 0), (50, .invokevirtual 153, 3, 117, 0), (53, .ireturn, 1, 0, 0)]
/-- ParserProof.depth()I -/
def L_15 : List ab_I := [(0, .aload_n 0, 1, 0, 0), (1, .getfield 42, 3, 5, 4), (4, .getfield 156, 3, 4, 7), (7, .ireturn, 1, 0, 0)]
/-- ParserProof.dropAutomaton()V -/
def L_16 : List ab_I := [(0, .aload_n 0, 1, 0, 0), (1, .getfield 19, 3, 5, 1), (4, .iconst 0, 1, 0, 0), (5, .putfield 82, 3, 0, 0), (8, .aload_n 0, 1, 0, 0), (9, .getfield 35, 3, 5, 3), (12, .invokevirtual 159, 3, 92, 0), (15, .aload_n 0, 1, 0, 0), (16, .getfield 42, 3, 5, 4), (19, .invokevirtual 105, 3, 116, 0), (22, .return_, 1, 0, 0)]
/-- ParserProof.requireAutomaton()V -/
def L_17 : List ab_I := [(0, .aload_n 0, 1, 0, 0), (1, .getfield 19, 3, 5, 1), (4, .getfield 82, 3, 0, 0), (7, .ifCond .ne 13, 3, 9, 0), (10, .new 61, 3, 0, 0), (13, .dup, 1, 0, 0), (14, .ldc 160, 2, 0, 0), (16, .invokespecial 65, 3, 0, 0), (19, .athrow, 1, 0, 0), (20, .return_, 1, 0, 0)]
/-- ParserProof.requireState(I)V -/
def L_18 : List ab_I := [(0, .iload_n 1, 1, 0, 0), (1, .ifCond .lt 14, 3, 7, 0), (4, .iload_n 1, 1, 0, 0), (5, .aload_n 0, 1, 0, 0), (6, .getfield 19, 3, 5, 1), (9, .getfield 82, 3, 0, 0), (12, .if_icmp .lt 13, 3, 12, 0), (15, .new 146, 3, 0, 0), (18, .dup, 1, 0, 0), (19, .ldc 162, 2, 0, 0), (21, .invokespecial 150, 3, 0, 0), (24, .athrow, 1, 0, 0), (25, .return_, 1, 0, 0)]
/-- ParserProof.requirePlace(II)V -/
def L_19 : List ab_I := [(0, .aload_n 0, 1, 0, 0), (1, .iload_n 1, 1, 0, 0), (2, .invokevirtual 164, 3, 18, 0), (5, .iload_n 2, 1, 0, 0), (6, .ifCond .lt 9, 3, 8, 0), (9, .iload_n 2, 1, 0, 0), (10, .bipush 10, 2, 0, 0), (12, .if_icmp .lt 13, 3, 13, 0), (15, .new 146, 3, 0, 0), (18, .dup, 1, 0, 0), (19, .ldc 168, 2, 0, 0), (21, .invokespecial 150, 3, 0, 0), (24, .athrow, 1, 0, 0), (25, .return_, 1, 0, 0)]
/-- ParserProof.requireItem(IIII)V -/
def L_20 : List ab_I := [(0, .aload_n 0, 1, 0, 0), (1, .iload_n 1, 1, 0, 0), (2, .invokevirtual 164, 3, 18, 0), (5, .aload_n 0, 1, 0, 0), (6, .iload_n 2, 1, 0, 0), (7, .iload_n 3, 1, 0, 0), (8, .iload 4, 2, 0, 0), (10, .invokevirtual 170, 3, 21, 0), (13, .ifCond .ne 13, 3, 14, 0), (16, .new 50, 3, 0, 0), (19, .dup, 1, 0, 0), (20, .ldc 174, 2, 0, 0), (22, .invokespecial 54, 3, 0, 0), (25, .athrow, 1, 0, 0), (26, .return_, 1, 0, 0)]
/-- ParserProof.isItem(III)Z -/
def L_21 : List ab_I := [(0, .iload_n 1, 1, 0, 0), (1, .ifCond .lt 14, 3, 7, 0), (4, .iload_n 1, 1, 0, 0), (5, .aload_n 0, 1, 0, 0), (6, .getfield 12, 3, 5, 0), (9, .invokevirtual 176, 3, 109, 0), (12, .if_icmp .le 5, 3, 9, 0), (15, .iconst 0, 1, 0, 0), (16, .ireturn, 1, 0, 0), (17, .iload_n 2, 1, 0, 0), (18, .ifCond .lt 31, 3, 26, 0), (21, .iload_n 2, 1, 0, 0), (22, .aload_n 0, 1, 0, 0), (23, .getfield 12, 3, 5, 0), (26, .getfield 179, 3, 3, 2), (29, .iload_n 1, 1, 0, 0), (30, .iaload, 1, 0, 0), (31, .if_icmp .gt 18, 3, 26, 0), (34, .iload_n 3, 1, 0, 0), (35, .iconst 4, 1, 0, 0), (36, .if_icmp .lt 13, 3, 26, 0), (39, .iload_n 3, 1, 0, 0), (40, .bipush 9, 2, 0, 0), (42, .if_icmp .gt 7, 3, 26, 0), (45, .iconst 1, 1, 0, 0), (46, .goto 4, 3, 27, 0), (49, .iconst 0, 1, 0, 0), (50, .ireturn, 1, 0, 0)]
/-- ParserProof.isEntry(I)Z -/
def L_22 : List ab_I := [(0, .iload_n 1, 1, 0, 0), (1, .iconst (-1), 1, 0, 0), (2, .if_icmp .eq 10, 3, 6, 0), (5, .iload_n 1, 1, 0, 0), (6, .sipush 200, 3, 0, 0), (9, .if_icmp .ne 5, 3, 8, 0), (12, .iconst 1, 1, 0, 0), (13, .ireturn, 1, 0, 0), (14, .iload_n 1, 1, 0, 0), (15, .bipush 100, 2, 0, 0), (17, .if_icmp .lt 23, 3, 22, 0), (20, .iload_n 1, 1, 0, 0), (21, .bipush 100, 2, 0, 0), (23, .isub, 1, 0, 0), (24, .aload_n 0, 1, 0, 0), (25, .getfield 12, 3, 5, 0), (28, .invokevirtual 176, 3, 109, 0), (31, .if_icmp .gt 7, 3, 20, 0), (34, .iconst 1, 1, 0, 0), (35, .goto 4, 3, 21, 0), (38, .iconst 0, 1, 0, 0), (39, .ireturn, 1, 0, 0), (40, .iload_n 1, 1, 0, 0), (41, .ifCond .lt 18, 3, 31, 0), (44, .iload_n 1, 1, 0, 0), (45, .aload_n 0, 1, 0, 0), (46, .getfield 19, 3, 5, 1), (49, .getfield 82, 3, 0, 0), (52, .if_icmp .ge 7, 3, 31, 0), (55, .iconst 1, 1, 0, 0), (56, .goto 4, 3, 32, 0), (59, .iconst 0, 1, 0, 0), (60, .ireturn, 1, 0, 0)]
/-- ParserProof.isNonterminal(I)Z -/
def L_23 : List ab_I := [(0, .iload_n 0, 1, 0, 0), (1, .ifCond .lt 12, 3, 7, 0), (4, .iload_n 0, 1, 0, 0), (5, .iconst 4, 1, 0, 0), (6, .if_icmp .ge 7, 3, 7, 0), (9, .iconst 1, 1, 0, 0), (10, .goto 4, 3, 8, 0), (13, .iconst 0, 1, 0, 0), (14, .ireturn, 1, 0, 0)]
/-- ParserProof.isTerminal(I)Z -/
def L_24 : List ab_I := [(0, .iload_n 0, 1, 0, 0), (1, .iconst 4, 1, 0, 0), (2, .if_icmp .lt 13, 3, 8, 0), (5, .iload_n 0, 1, 0, 0), (6, .bipush 9, 2, 0, 0), (8, .if_icmp .ge 7, 3, 8, 0), (11, .iconst 1, 1, 0, 0), (12, .goto 4, 3, 9, 0), (15, .iconst 0, 1, 0, 0), (16, .ireturn, 1, 0, 0)]
/-- ParserProof.isGo(I)Z -/
def L_25 : List ab_I := [(0, .iload_n 0, 1, 0, 0), (1, .ifCond .lt 13, 3, 7, 0), (4, .iload_n 0, 1, 0, 0), (5, .bipush 50, 2, 0, 0), (7, .if_icmp .ge 7, 3, 7, 0), (10, .iconst 1, 1, 0, 0), (11, .goto 4, 3, 8, 0), (14, .iconst 0, 1, 0, 0), (15, .ireturn, 1, 0, 0)]
/-- ParserProof.bitOf(I)I -/
def L_26 : List ab_I := [(0, .iconst 1, 1, 0, 0), (1, .iload_n 0, 1, 0, 0), (2, .iconst 4, 1, 0, 0), (3, .isub, 1, 0, 0), (4, .ishl, 1, 0, 0), (5, .ireturn, 1, 0, 0)]
/-- ParserProof.coreOf(II)I -/
def L_27 : List ab_I := [(0, .iload_n 0, 1, 0, 0), (1, .iconst 5, 1, 0, 0), (2, .imul, 1, 0, 0), (3, .iload_n 1, 1, 0, 0), (4, .iadd, 1, 0, 0), (5, .ireturn, 1, 0, 0)]
/-- ParserProofModel.thrown()I -/
def L_28 : List ab_I := [(0, .aload_n 0, 1, 0, 0), (1, .getfield 75, 3, 6, 0), (4, .ireturn, 1, 0, 0)]
/-- ParserProofModel.fail(I)I -/
def L_29 : List ab_I := [(0, .aload_n 0, 1, 0, 0), (1, .iload_n 1, 1, 0, 0), (2, .putfield 75, 3, 6, 0), (5, .iconst 0, 1, 0, 0), (6, .ireturn, 1, 0, 0)]
/-- ParserProofModel.forgetParse()V -/
def L_30 : List ab_I := [(0, .aload_n 0, 1, 0, 0), (1, .iconst 0, 1, 0, 0), (2, .putfield 78, 3, 6, 19), (5, .aload_n 0, 1, 0, 0), (6, .iconst 0, 1, 0, 0), (7, .putfield 82, 3, 6, 22), (10, .return_, 1, 0, 0)]
/-- ParserProofModel.note(IIII)Z -/
def L_31 : List ab_I := [(0, .aload_n 0, 1, 0, 0), (1, .iload_n 1, 1, 0, 0), (2, .putfield 38, 3, 6, 13), (5, .aload_n 0, 1, 0, 0), (6, .iload_n 2, 1, 0, 0), (7, .putfield 42, 3, 6, 14), (10, .aload_n 0, 1, 0, 0), (11, .iload_n 3, 1, 0, 0), (12, .putfield 45, 3, 6, 15), (15, .aload_n 0, 1, 0, 0), (16, .iload 4, 2, 0, 0), (18, .putfield 48, 3, 6, 16), (21, .iconst 1, 1, 0, 0), (22, .ireturn, 1, 0, 0)]
/-- ParserProofModel.rule(I)I -/
def L_32 : List ab_I := [(0, .aload_n 0, 1, 0, 0), (1, .iconst 0, 1, 0, 0), (2, .putfield 75, 3, 6, 0), (5, .iload_n 1, 1, 0, 0), (6, .iconst 2, 1, 0, 0), (7, .ishr, 1, 0, 0), (8, .bipush 7, 2, 0, 0), (10, .iand, 1, 0, 0), (11, .istore_n 2, 1, 0, 0), (12, .iload_n 2, 1, 0, 0), (13, .iconst 4, 1, 0, 0), (14, .if_icmp .gt 7, 3, 14, 0), (17, .iconst 1, 1, 0, 0), (18, .goto 4, 3, 15, 0), (21, .iconst 0, 1, 0, 0), (22, .istore_n 3, 1, 0, 0), (23, .iconst 0, 1, 0, 0), (24, .istore 4, 2, 0, 0), (26, .iload 4, 2, 0, 0), (28, .iload_n 2, 1, 0, 0), (29, .if_icmp .ge 41, 3, 43, 0), (32, .iload 4, 2, 0, 0), (34, .iconst 4, 1, 0, 0), (35, .if_icmp .ge 35, 3, 43, 0), (38, .iload_n 3, 1, 0, 0), (39, .ifCond .eq 23, 3, 39, 0), (42, .iload_n 1, 1, 0, 0), (43, .iconst 5, 1, 0, 0), (44, .iconst 4, 1, 0, 0), (45, .iload 4, 2, 0, 0), (47, .imul, 1, 0, 0), (48, .iadd, 1, 0, 0), (49, .ishr, 1, 0, 0), (50, .bipush 15, 2, 0, 0), (52, .iand, 1, 0, 0), (53, .bipush 9, 2, 0, 0), (55, .if_icmp .ge 7, 3, 39, 0), (58, .iconst 1, 1, 0, 0), (59, .goto 4, 3, 40, 0), (62, .iconst 0, 1, 0, 0), (63, .istore_n 3, 1, 0, 0), (64, .iinc 4 1, 3, 0, 0), (67, .goto (-41), 3, 18, 0), (70, .iload_n 3, 1, 0, 0), (71, .ifCond .ne 9, 3, 49, 0), (74, .aload_n 0, 1, 0, 0), (75, .iconst 1, 1, 0, 0), (76, .invokevirtual 85, 3, 29, 0), (79, .ireturn, 1, 0, 0), (80, .aload_n 0, 1, 0, 0), (81, .getfield 89, 3, 6, 1), (84, .bipush 8, 2, 0, 0), (86, .if_icmp .ne 9, 3, 57, 0), (89, .aload_n 0, 1, 0, 0), (90, .iconst 2, 1, 0, 0), (91, .invokevirtual 85, 3, 29, 0), (94, .ireturn, 1, 0, 0), (95, .aload_n 0, 1, 0, 0), (96, .getfield 7, 3, 6, 2), (99, .aload_n 0, 1, 0, 0), (100, .getfield 89, 3, 6, 1), (103, .iload_n 1, 1, 0, 0), (104, .iconst 3, 1, 0, 0), (105, .iand, 1, 0, 0), (106, .iastore, 1, 0, 0), (107, .aload_n 0, 1, 0, 0), (108, .getfield 13, 3, 6, 3), (111, .aload_n 0, 1, 0, 0), (112, .getfield 89, 3, 6, 1), (115, .iload_n 2, 1, 0, 0), (116, .iastore, 1, 0, 0), (117, .iconst 0, 1, 0, 0), (118, .istore 4, 2, 0, 0), (120, .iload 4, 2, 0, 0), (122, .iload_n 2, 1, 0, 0), (123, .if_icmp .ge 34, 3, 96, 0), (126, .aload_n 0, 1, 0, 0), (127, .getfield 16, 3, 6, 4), (130, .iconst 4, 1, 0, 0), (131, .aload_n 0, 1, 0, 0), (132, .getfield 89, 3, 6, 1), (135, .imul, 1, 0, 0), (136, .iload 4, 2, 0, 0), (138, .iadd, 1, 0, 0), (139, .iload_n 1, 1, 0, 0), (140, .iconst 5, 1, 0, 0), (141, .iconst 4, 1, 0, 0), (142, .iload 4, 2, 0, 0), (144, .imul, 1, 0, 0), (145, .iadd, 1, 0, 0), (146, .ishr, 1, 0, 0), (147, .bipush 15, 2, 0, 0), (149, .iand, 1, 0, 0), (150, .iastore, 1, 0, 0), (151, .iinc 4 1, 3, 0, 0), (154, .goto (-34), 3, 73, 0), (157, .aload_n 0, 1, 0, 0), (158, .dup, 1, 0, 0), (159, .getfield 89, 3, 6, 1), (162, .iconst 1, 1, 0, 0), (163, .iadd, 1, 0, 0), (164, .putfield 89, 3, 6, 1), (167, .aload_n 0, 1, 0, 0), (168, .invokevirtual 92, 3, 33, 0), (171, .aload_n 0, 1, 0, 0), (172, .getfield 89, 3, 6, 1), (175, .iconst 1, 1, 0, 0), (176, .isub, 1, 0, 0), (177, .ireturn, 1, 0, 0)]
/-- ParserProofModel.forget()V -/
def L_33 : List ab_I := [(0, .aload_n 0, 1, 0, 0), (1, .iconst 0, 1, 0, 0), (2, .putfield 95, 3, 6, 7), (5, .aload_n 0, 1, 0, 0), (6, .invokevirtual 98, 3, 30, 0), (9, .aload_n 0, 1, 0, 0), (10, .iconst (-1), 1, 0, 0), (11, .iconst (-1), 1, 0, 0), (12, .iconst (-1), 1, 0, 0), (13, .iconst (-1), 1, 0, 0), (14, .invokevirtual 101, 3, 31, 0), (17, .pop, 1, 0, 0), (18, .return_, 1, 0, 0)]
/-- ParserProofModel.clear()V -/
def L_34 : List ab_I := [(0, .aload_n 0, 1, 0, 0), (1, .iconst 0, 1, 0, 0), (2, .putfield 75, 3, 6, 0), (5, .aload_n 0, 1, 0, 0), (6, .iconst 0, 1, 0, 0), (7, .putfield 89, 3, 6, 1), (10, .aload_n 0, 1, 0, 0), (11, .invokevirtual 92, 3, 33, 0), (14, .return_, 1, 0, 0)]
/-- ParserProofModel.sizeOf(I)I -/
def L_35 : List ab_I := [(0, .iload_n 1, 1, 0, 0), (1, .aload_n 0, 1, 0, 0), (2, .getfield 89, 3, 6, 1), (5, .if_icmp .ne 7, 3, 6, 0), (8, .iconst 1, 1, 0, 0), (9, .goto 9, 3, 10, 0), (12, .aload_n 0, 1, 0, 0), (13, .getfield 13, 3, 6, 3), (16, .iload_n 1, 1, 0, 0), (17, .iaload, 1, 0, 0), (18, .ireturn, 1, 0, 0)]
/-- ParserProofModel.next(II)I -/
def L_36 : List ab_I := [(0, .iload_n 2, 1, 0, 0), (1, .aload_n 0, 1, 0, 0), (2, .iload_n 1, 1, 0, 0), (3, .invokevirtual 105, 3, 35, 0), (6, .if_icmp .lt 5, 3, 7, 0), (9, .iconst (-1), 1, 0, 0), (10, .ireturn, 1, 0, 0), (11, .iload_n 1, 1, 0, 0), (12, .aload_n 0, 1, 0, 0), (13, .getfield 89, 3, 6, 1), (16, .if_icmp .ne 12, 3, 16, 0), (19, .aload_n 0, 1, 0, 0), (20, .getfield 7, 3, 6, 2), (23, .iconst 0, 1, 0, 0), (24, .iaload, 1, 0, 0), (25, .goto 13, 3, 24, 0), (28, .aload_n 0, 1, 0, 0), (29, .getfield 16, 3, 6, 4), (32, .iconst 4, 1, 0, 0), (33, .iload_n 1, 1, 0, 0), (34, .imul, 1, 0, 0), (35, .iload_n 2, 1, 0, 0), (36, .iadd, 1, 0, 0), (37, .iaload, 1, 0, 0), (38, .ireturn, 1, 0, 0)]
/-- ParserProofModel.vanishes(I)Z -/
def L_37 : List ab_I := [(0, .iload_n 1, 1, 0, 0), (1, .iconst 4, 1, 0, 0), (2, .if_icmp .ge 16, 3, 10, 0), (5, .aload_n 0, 1, 0, 0), (6, .getfield 19, 3, 6, 5), (9, .iload_n 1, 1, 0, 0), (10, .baload, 1, 0, 0), (11, .ifCond .eq 7, 3, 10, 0), (14, .iconst 1, 1, 0, 0), (15, .goto 4, 3, 11, 0), (18, .iconst 0, 1, 0, 0), (19, .ireturn, 1, 0, 0)]
/-- ParserProofModel.isEmpty(III)Z -/
def L_38 : List ab_I := [(0, .iconst 1, 1, 0, 0), (1, .istore 4, 2, 0, 0), (3, .iload_n 2, 1, 0, 0), (4, .istore 5, 2, 0, 0), (6, .iload 5, 2, 0, 0), (8, .iload_n 3, 1, 0, 0), (9, .if_icmp .ge 35, 3, 22, 0), (12, .iload 4, 2, 0, 0), (14, .ifCond .eq 21, 3, 18, 0), (17, .aload_n 0, 1, 0, 0), (18, .aload_n 0, 1, 0, 0), (19, .iload_n 1, 1, 0, 0), (20, .iload 5, 2, 0, 0), (22, .invokevirtual 108, 3, 36, 0), (25, .invokevirtual 112, 3, 37, 0), (28, .ifCond .eq 7, 3, 18, 0), (31, .iconst 1, 1, 0, 0), (32, .goto 4, 3, 19, 0), (35, .iconst 0, 1, 0, 0), (36, .istore 4, 2, 0, 0), (38, .iinc 5 1, 3, 0, 0), (41, .goto (-35), 3, 4, 0), (44, .iload 4, 2, 0, 0), (46, .ireturn, 1, 0, 0)]
/-- ParserProofModel.study()V -/
def L_39 : List ab_I := [(0, .iconst 0, 1, 0, 0), (1, .istore_n 1, 1, 0, 0), (2, .iload_n 1, 1, 0, 0), (3, .iconst 4, 1, 0, 0), (4, .if_icmp .ge 16, 3, 12, 0), (7, .aload_n 0, 1, 0, 0), (8, .getfield 19, 3, 6, 5), (11, .iload_n 1, 1, 0, 0), (12, .iconst 0, 1, 0, 0), (13, .bastore, 1, 0, 0), (14, .iinc 1 1, 3, 0, 0), (17, .goto (-15), 3, 2, 0), (20, .iconst 0, 1, 0, 0), (21, .istore_n 1, 1, 0, 0), (22, .iload_n 1, 1, 0, 0), (23, .iconst 4, 1, 0, 0), (24, .if_icmp .ge 52, 3, 44, 0), (27, .iconst 0, 1, 0, 0), (28, .istore_n 2, 1, 0, 0), (29, .iload_n 2, 1, 0, 0), (30, .aload_n 0, 1, 0, 0), (31, .getfield 89, 3, 6, 1), (34, .if_icmp .ge 36, 3, 42, 0), (37, .aload_n 0, 1, 0, 0), (38, .iload_n 2, 1, 0, 0), (39, .iconst 0, 1, 0, 0), (40, .aload_n 0, 1, 0, 0), (41, .getfield 13, 3, 6, 3), (44, .iload_n 2, 1, 0, 0), (45, .iaload, 1, 0, 0), (46, .invokevirtual 116, 3, 38, 0), (49, .ifCond .eq 15, 3, 40, 0), (52, .aload_n 0, 1, 0, 0), (53, .getfield 19, 3, 6, 5), (56, .aload_n 0, 1, 0, 0), (57, .getfield 7, 3, 6, 2), (60, .iload_n 2, 1, 0, 0), (61, .iaload, 1, 0, 0), (62, .iconst 1, 1, 0, 0), (63, .bastore, 1, 0, 0), (64, .iinc 2 1, 3, 0, 0), (67, .goto (-38), 3, 19, 0), (70, .iinc 1 1, 3, 0, 0), (73, .goto (-51), 3, 14, 0), (76, .iconst 0, 1, 0, 0), (77, .istore_n 1, 1, 0, 0), (78, .iload_n 1, 1, 0, 0), (79, .bipush 81, 2, 0, 0), (81, .if_icmp .ge 31, 3, 65, 0), (84, .aload_n 0, 1, 0, 0), (85, .getfield 23, 3, 6, 6), (88, .iload_n 1, 1, 0, 0), (89, .iload_n 1, 1, 0, 0), (90, .bipush 9, 2, 0, 0), (92, .idiv, 1, 0, 0), (93, .iload_n 1, 1, 0, 0), (94, .bipush 9, 2, 0, 0), (96, .irem, 1, 0, 0), (97, .if_icmp .ne 7, 3, 61, 0), (100, .iconst 1, 1, 0, 0), (101, .goto 4, 3, 62, 0), (104, .iconst 0, 1, 0, 0), (105, .bastore, 1, 0, 0), (106, .iinc 1 1, 3, 0, 0), (109, .goto (-31), 3, 46, 0), (112, .iconst 0, 1, 0, 0), (113, .istore_n 1, 1, 0, 0), (114, .iload_n 1, 1, 0, 0), (115, .aload_n 0, 1, 0, 0), (116, .getfield 89, 3, 6, 1), (119, .if_icmp .ge 59, 3, 104, 0), (122, .iconst 0, 1, 0, 0), (123, .istore_n 2, 1, 0, 0), (124, .iload_n 2, 1, 0, 0), (125, .aload_n 0, 1, 0, 0), (126, .getfield 13, 3, 6, 3), (129, .iload_n 1, 1, 0, 0), (130, .iaload, 1, 0, 0), (131, .if_icmp .ge 41, 3, 102, 0), (134, .aload_n 0, 1, 0, 0), (135, .iload_n 1, 1, 0, 0), (136, .iconst 0, 1, 0, 0), (137, .iload_n 2, 1, 0, 0), (138, .invokevirtual 116, 3, 38, 0), (141, .ifCond .eq 25, 3, 100, 0), (144, .aload_n 0, 1, 0, 0), (145, .getfield 23, 3, 6, 6), (148, .bipush 9, 2, 0, 0), (150, .aload_n 0, 1, 0, 0), (151, .getfield 7, 3, 6, 2), (154, .iload_n 1, 1, 0, 0), (155, .iaload, 1, 0, 0), (156, .imul, 1, 0, 0), (157, .aload_n 0, 1, 0, 0), (158, .iload_n 1, 1, 0, 0), (159, .iload_n 2, 1, 0, 0), (160, .invokevirtual 108, 3, 36, 0), (163, .iadd, 1, 0, 0), (164, .iconst 1, 1, 0, 0), (165, .bastore, 1, 0, 0), (166, .iinc 2 1, 3, 0, 0), (169, .goto (-45), 3, 73, 0), (172, .iinc 1 1, 3, 0, 0), (175, .goto (-61), 3, 67, 0), (178, .iconst 0, 1, 0, 0), (179, .istore_n 1, 1, 0, 0), (180, .iload_n 1, 1, 0, 0), (181, .bipush 9, 2, 0, 0), (183, .if_icmp .ge 77, 3, 152, 0), (186, .iconst 0, 1, 0, 0), (187, .istore_n 2, 1, 0, 0), (188, .iload_n 2, 1, 0, 0), (189, .bipush 81, 2, 0, 0), (191, .if_icmp .ge 63, 3, 150, 0), (194, .aload_n 0, 1, 0, 0), (195, .getfield 23, 3, 6, 6), (198, .iload_n 2, 1, 0, 0), (199, .aload_n 0, 1, 0, 0), (200, .getfield 23, 3, 6, 6), (203, .iload_n 2, 1, 0, 0), (204, .baload, 1, 0, 0), (205, .ifCond .ne 37, 3, 144, 0), (208, .aload_n 0, 1, 0, 0), (209, .getfield 23, 3, 6, 6), (212, .bipush 9, 2, 0, 0), (214, .iload_n 2, 1, 0, 0), (215, .bipush 9, 2, 0, 0), (217, .idiv, 1, 0, 0), (218, .imul, 1, 0, 0), (219, .iload_n 1, 1, 0, 0), (220, .iadd, 1, 0, 0), (221, .baload, 1, 0, 0), (222, .ifCond .eq 24, 3, 146, 0), (225, .aload_n 0, 1, 0, 0), (226, .getfield 23, 3, 6, 6), (229, .bipush 9, 2, 0, 0), (231, .iload_n 1, 1, 0, 0), (232, .imul, 1, 0, 0), (233, .iload_n 2, 1, 0, 0), (234, .bipush 9, 2, 0, 0), (236, .irem, 1, 0, 0), (237, .iadd, 1, 0, 0), (238, .baload, 1, 0, 0), (239, .ifCond .eq 7, 3, 146, 0), (242, .iconst 1, 1, 0, 0), (243, .goto 4, 3, 147, 0), (246, .iconst 0, 1, 0, 0), (247, .bastore, 1, 0, 0), (248, .iinc 2 1, 3, 0, 0), (251, .goto (-63), 3, 111, 0), (254, .iinc 1 1, 3, 0, 0), (257, .goto (-77), 3, 106, 0), (260, .return_, 1, 0, 0)]
/-- ParserProofModel.isFirst(IIII)Z -/
def L_40 : List ab_I := [(0, .iload_n 1, 1, 0, 0), (1, .iload 4, 2, 0, 0), (3, .if_icmp .ne 21, 3, 13, 0), (6, .aload_n 0, 1, 0, 0), (7, .iload_n 2, 1, 0, 0), (8, .iload_n 3, 1, 0, 0), (9, .aload_n 0, 1, 0, 0), (10, .iload_n 2, 1, 0, 0), (11, .invokevirtual 105, 3, 35, 0), (14, .invokevirtual 116, 3, 38, 0), (17, .ifCond .eq 7, 3, 13, 0), (20, .iconst 1, 1, 0, 0), (21, .goto 4, 3, 14, 0), (24, .iconst 0, 1, 0, 0), (25, .istore 5, 2, 0, 0), (27, .iload_n 3, 1, 0, 0), (28, .istore 6, 2, 0, 0), (30, .iload 6, 2, 0, 0), (32, .aload_n 0, 1, 0, 0), (33, .iload_n 2, 1, 0, 0), (34, .invokevirtual 105, 3, 35, 0), (37, .if_icmp .ge 58, 3, 51, 0), (40, .iload_n 1, 1, 0, 0), (41, .bipush 9, 2, 0, 0), (43, .if_icmp .ge 52, 3, 51, 0), (46, .iload 5, 2, 0, 0), (48, .ifCond .ne 34, 3, 45, 0), (51, .aload_n 0, 1, 0, 0), (52, .iload_n 2, 1, 0, 0), (53, .iload_n 3, 1, 0, 0), (54, .iload 6, 2, 0, 0), (56, .invokevirtual 116, 3, 38, 0), (59, .ifCond .eq 27, 3, 47, 0), (62, .aload_n 0, 1, 0, 0), (63, .getfield 23, 3, 6, 6), (66, .bipush 9, 2, 0, 0), (68, .aload_n 0, 1, 0, 0), (69, .iload_n 2, 1, 0, 0), (70, .iload 6, 2, 0, 0), (72, .invokevirtual 108, 3, 36, 0), (75, .imul, 1, 0, 0), (76, .iload_n 1, 1, 0, 0), (77, .iadd, 1, 0, 0), (78, .baload, 1, 0, 0), (79, .ifCond .eq 7, 3, 47, 0), (82, .iconst 1, 1, 0, 0), (83, .goto 4, 3, 48, 0), (86, .iconst 0, 1, 0, 0), (87, .istore 5, 2, 0, 0), (89, .iinc 6 1, 3, 0, 0), (92, .goto (-62), 3, 17, 0), (95, .iload 5, 2, 0, 0), (97, .ireturn, 1, 0, 0)]
/-- ParserProofModel.item(III)I -/
def L_41 : List ab_I := [(0, .bipush 30, 2, 0, 0), (2, .iload_n 0, 1, 0, 0), (3, .imul, 1, 0, 0), (4, .bipush 6, 2, 0, 0), (6, .iload_n 1, 1, 0, 0), (7, .imul, 1, 0, 0), (8, .iadd, 1, 0, 0), (9, .iload_n 2, 1, 0, 0), (10, .iadd, 1, 0, 0), (11, .iconst 4, 1, 0, 0), (12, .isub, 1, 0, 0), (13, .ireturn, 1, 0, 0)]
/-- ParserProofModel.has2(IIII)Z -/
def L_42 : List ab_I := [(0, .aload_n 0, 1, 0, 0), (1, .getfield 26, 3, 6, 8), (4, .sipush 270, 3, 0, 0), (7, .iload_n 1, 1, 0, 0), (8, .imul, 1, 0, 0), (9, .iload_n 2, 1, 0, 0), (10, .iload_n 3, 1, 0, 0), (11, .iload 4, 2, 0, 0), (13, .invokestatic 120, 3, 41, 0), (16, .iadd, 1, 0, 0), (17, .baload, 1, 0, 0), (18, .ireturn, 1, 0, 0)]
/-- ParserProofModel.add(I)V -/
def L_43 : List ab_I := [(0, .aload_n 0, 1, 0, 0), (1, .getfield 32, 3, 6, 10), (4, .iload_n 1, 1, 0, 0), (5, .baload, 1, 0, 0), (6, .ifCond .eq 4, 3, 6, 0), (9, .return_, 1, 0, 0), (10, .aload_n 0, 1, 0, 0), (11, .getfield 32, 3, 6, 10), (14, .iload_n 1, 1, 0, 0), (15, .iconst 1, 1, 0, 0), (16, .bastore, 1, 0, 0), (17, .aload_n 0, 1, 0, 0), (18, .getfield 35, 3, 6, 11), (21, .aload_n 0, 1, 0, 0), (22, .getfield 124, 3, 6, 12), (25, .iload_n 1, 1, 0, 0), (26, .iastore, 1, 0, 0), (27, .aload_n 0, 1, 0, 0), (28, .dup, 1, 0, 0), (29, .getfield 124, 3, 6, 12), (32, .iconst 1, 1, 0, 0), (33, .iadd, 1, 0, 0), (34, .putfield 124, 3, 6, 12), (37, .return_, 1, 0, 0)]
/-- ParserProofModel.beginSet()V -/
def L_44 : List ab_I := [(0, .iconst 0, 1, 0, 0), (1, .istore_n 1, 1, 0, 0), (2, .iload_n 1, 1, 0, 0), (3, .sipush 270, 3, 0, 0), (6, .if_icmp .ge 16, 3, 12, 0), (9, .aload_n 0, 1, 0, 0), (10, .getfield 32, 3, 6, 10), (13, .iload_n 1, 1, 0, 0), (14, .iconst 0, 1, 0, 0), (15, .bastore, 1, 0, 0), (16, .iinc 1 1, 3, 0, 0), (19, .goto (-17), 3, 2, 0), (22, .aload_n 0, 1, 0, 0), (23, .iconst 0, 1, 0, 0), (24, .putfield 124, 3, 6, 12), (27, .return_, 1, 0, 0)]
/-- ParserProofModel.close()V -/
def L_45 : List ab_I := [(0, .iconst 0, 1, 0, 0), (1, .istore_n 1, 1, 0, 0), (2, .iload_n 1, 1, 0, 0), (3, .aload_n 0, 1, 0, 0), (4, .getfield 124, 3, 6, 12), (7, .if_icmp .ge 125, 3, 73, 0), (10, .aload_n 0, 1, 0, 0), (11, .getfield 35, 3, 6, 11), (14, .iload_n 1, 1, 0, 0), (15, .iaload, 1, 0, 0), (16, .bipush 30, 2, 0, 0), (18, .idiv, 1, 0, 0), (19, .istore_n 2, 1, 0, 0), (20, .aload_n 0, 1, 0, 0), (21, .getfield 35, 3, 6, 11), (24, .iload_n 1, 1, 0, 0), (25, .iaload, 1, 0, 0), (26, .bipush 30, 2, 0, 0), (28, .irem, 1, 0, 0), (29, .bipush 6, 2, 0, 0), (31, .idiv, 1, 0, 0), (32, .istore_n 3, 1, 0, 0), (33, .aload_n 0, 1, 0, 0), (34, .getfield 35, 3, 6, 11), (37, .iload_n 1, 1, 0, 0), (38, .iaload, 1, 0, 0), (39, .bipush 6, 2, 0, 0), (41, .irem, 1, 0, 0), (42, .iconst 4, 1, 0, 0), (43, .iadd, 1, 0, 0), (44, .istore 4, 2, 0, 0), (46, .iconst 0, 1, 0, 0), (47, .istore 5, 2, 0, 0), (49, .iload 5, 2, 0, 0), (51, .aload_n 0, 1, 0, 0), (52, .getfield 89, 3, 6, 1), (55, .if_icmp .ge 71, 3, 71, 0), (58, .aload_n 0, 1, 0, 0), (59, .getfield 7, 3, 6, 2), (62, .iload 5, 2, 0, 0), (64, .iaload, 1, 0, 0), (65, .aload_n 0, 1, 0, 0), (66, .iload_n 2, 1, 0, 0), (67, .iload_n 3, 1, 0, 0), (68, .invokevirtual 108, 3, 36, 0), (71, .if_icmp .eq 6, 3, 47, 0), (74, .goto 46, 3, 69, 0), (77, .iconst 4, 1, 0, 0), (78, .istore 6, 2, 0, 0), (80, .iload 6, 2, 0, 0), (82, .bipush 9, 2, 0, 0), (84, .if_icmp .gt 36, 3, 69, 0), (87, .aload_n 0, 1, 0, 0), (88, .iload 6, 2, 0, 0), (90, .iload_n 2, 1, 0, 0), (91, .iload_n 3, 1, 0, 0), (92, .iconst 1, 1, 0, 0), (93, .iadd, 1, 0, 0), (94, .iload 4, 2, 0, 0), (96, .invokevirtual 127, 3, 40, 0), (99, .ifCond .eq 15, 3, 67, 0), (102, .aload_n 0, 1, 0, 0), (103, .iload 5, 2, 0, 0), (105, .iconst 0, 1, 0, 0), (106, .iload 6, 2, 0, 0), (108, .invokestatic 120, 3, 41, 0), (111, .invokevirtual 130, 3, 43, 0), (114, .iinc 6 1, 3, 0, 0), (117, .goto (-37), 3, 49, 0), (120, .iinc 5 1, 3, 0, 0), (123, .goto (-74), 3, 33, 0), (126, .iinc 1 1, 3, 0, 0), (129, .goto (-127), 3, 2, 0), (132, .return_, 1, 0, 0)]
/-- ParserProofModel.settle()I -/
def L_46 : List ab_I := [(0, .iconst 0, 1, 0, 0), (1, .istore_n 1, 1, 0, 0), (2, .iload_n 1, 1, 0, 0), (3, .aload_n 0, 1, 0, 0), (4, .getfield 95, 3, 6, 7), (7, .if_icmp .ge 63, 3, 40, 0), (10, .iconst 1, 1, 0, 0), (11, .istore_n 2, 1, 0, 0), (12, .iconst 0, 1, 0, 0), (13, .istore_n 3, 1, 0, 0), (14, .iload_n 3, 1, 0, 0), (15, .sipush 270, 3, 0, 0), (18, .if_icmp .ge 40, 3, 34, 0), (21, .iload_n 2, 1, 0, 0), (22, .ifCond .eq 28, 3, 30, 0), (25, .aload_n 0, 1, 0, 0), (26, .getfield 26, 3, 6, 8), (29, .sipush 270, 3, 0, 0), (32, .iload_n 1, 1, 0, 0), (33, .imul, 1, 0, 0), (34, .iload_n 3, 1, 0, 0), (35, .iadd, 1, 0, 0), (36, .baload, 1, 0, 0), (37, .aload_n 0, 1, 0, 0), (38, .getfield 32, 3, 6, 10), (41, .iload_n 3, 1, 0, 0), (42, .baload, 1, 0, 0), (43, .if_icmp .ne 7, 3, 30, 0), (46, .iconst 1, 1, 0, 0), (47, .goto 4, 3, 31, 0), (50, .iconst 0, 1, 0, 0), (51, .istore_n 2, 1, 0, 0), (52, .iinc 3 1, 3, 0, 0), (55, .goto (-41), 3, 10, 0), (58, .iload_n 2, 1, 0, 0), (59, .ifCond .eq 5, 3, 38, 0), (62, .iload_n 1, 1, 0, 0), (63, .ireturn, 1, 0, 0), (64, .iinc 1 1, 3, 0, 0), (67, .goto (-65), 3, 2, 0), (70, .aload_n 0, 1, 0, 0), (71, .getfield 95, 3, 6, 7), (74, .bipush 50, 2, 0, 0), (76, .if_icmp .ne 5, 3, 46, 0), (79, .iconst (-1), 1, 0, 0), (80, .ireturn, 1, 0, 0), (81, .iconst 0, 1, 0, 0), (82, .istore_n 1, 1, 0, 0), (83, .iload_n 1, 1, 0, 0), (84, .sipush 270, 3, 0, 0), (87, .if_icmp .ge 30, 3, 66, 0), (90, .aload_n 0, 1, 0, 0), (91, .getfield 26, 3, 6, 8), (94, .sipush 270, 3, 0, 0), (97, .aload_n 0, 1, 0, 0), (98, .getfield 95, 3, 6, 7), (101, .imul, 1, 0, 0), (102, .iload_n 1, 1, 0, 0), (103, .iadd, 1, 0, 0), (104, .aload_n 0, 1, 0, 0), (105, .getfield 32, 3, 6, 10), (108, .iload_n 1, 1, 0, 0), (109, .baload, 1, 0, 0), (110, .bastore, 1, 0, 0), (111, .iinc 1 1, 3, 0, 0), (114, .goto (-31), 3, 48, 0), (117, .iconst 0, 1, 0, 0), (118, .istore_n 1, 1, 0, 0), (119, .iload_n 1, 1, 0, 0), (120, .bipush 10, 2, 0, 0), (122, .if_icmp .ge 24, 3, 83, 0), (125, .aload_n 0, 1, 0, 0), (126, .getfield 29, 3, 6, 9), (129, .bipush 10, 2, 0, 0), (131, .aload_n 0, 1, 0, 0), (132, .getfield 95, 3, 6, 7), (135, .imul, 1, 0, 0), (136, .iload_n 1, 1, 0, 0), (137, .iadd, 1, 0, 0), (138, .iconst (-1), 1, 0, 0), (139, .iastore, 1, 0, 0), (140, .iinc 1 1, 3, 0, 0), (143, .goto (-24), 3, 68, 0), (146, .aload_n 0, 1, 0, 0), (147, .dup, 1, 0, 0), (148, .getfield 95, 3, 6, 7), (151, .iconst 1, 1, 0, 0), (152, .iadd, 1, 0, 0), (153, .putfield 95, 3, 6, 7), (156, .aload_n 0, 1, 0, 0), (157, .getfield 95, 3, 6, 7), (160, .iconst 1, 1, 0, 0), (161, .isub, 1, 0, 0), (162, .ireturn, 1, 0, 0)]
/-- ParserProofModel.go(II)Z -/
def L_47 : List ab_I := [(0, .aload_n 0, 1, 0, 0), (1, .invokevirtual 134, 3, 44, 0), (4, .iconst 0, 1, 0, 0), (5, .istore_n 3, 1, 0, 0), (6, .iload_n 3, 1, 0, 0), (7, .sipush 270, 3, 0, 0), (10, .if_icmp .ge 59, 3, 39, 0), (13, .iload_n 3, 1, 0, 0), (14, .bipush 30, 2, 0, 0), (16, .idiv, 1, 0, 0), (17, .istore 4, 2, 0, 0), (19, .iload_n 3, 1, 0, 0), (20, .bipush 30, 2, 0, 0), (22, .irem, 1, 0, 0), (23, .bipush 6, 2, 0, 0), (25, .idiv, 1, 0, 0), (26, .istore 5, 2, 0, 0), (28, .aload_n 0, 1, 0, 0), (29, .getfield 26, 3, 6, 8), (32, .sipush 270, 3, 0, 0), (35, .iload_n 1, 1, 0, 0), (36, .imul, 1, 0, 0), (37, .iload_n 3, 1, 0, 0), (38, .iadd, 1, 0, 0), (39, .baload, 1, 0, 0), (40, .ifCond .eq 23, 3, 37, 0), (43, .aload_n 0, 1, 0, 0), (44, .iload 4, 2, 0, 0), (46, .iload 5, 2, 0, 0), (48, .invokevirtual 108, 3, 36, 0), (51, .iload_n 2, 1, 0, 0), (52, .if_icmp .ne 11, 3, 37, 0), (55, .aload_n 0, 1, 0, 0), (56, .iload_n 3, 1, 0, 0), (57, .bipush 6, 2, 0, 0), (59, .iadd, 1, 0, 0), (60, .invokevirtual 130, 3, 43, 0), (63, .iinc 3 1, 3, 0, 0), (66, .goto (-60), 3, 4, 0), (69, .aload_n 0, 1, 0, 0), (70, .getfield 124, 3, 6, 12), (73, .ifCond .ne 5, 3, 44, 0), (76, .iconst 1, 1, 0, 0), (77, .ireturn, 1, 0, 0), (78, .aload_n 0, 1, 0, 0), (79, .invokevirtual 137, 3, 45, 0), (82, .aload_n 0, 1, 0, 0), (83, .getfield 29, 3, 6, 9), (86, .bipush 10, 2, 0, 0), (88, .iload_n 1, 1, 0, 0), (89, .imul, 1, 0, 0), (90, .iload_n 2, 1, 0, 0), (91, .iadd, 1, 0, 0), (92, .aload_n 0, 1, 0, 0), (93, .invokevirtual 140, 3, 46, 0), (96, .iastore, 1, 0, 0), (97, .aload_n 0, 1, 0, 0), (98, .getfield 29, 3, 6, 9), (101, .bipush 10, 2, 0, 0), (103, .iload_n 1, 1, 0, 0), (104, .imul, 1, 0, 0), (105, .iload_n 2, 1, 0, 0), (106, .iadd, 1, 0, 0), (107, .iaload, 1, 0, 0), (108, .iconst (-1), 1, 0, 0), (109, .if_icmp .eq 7, 3, 68, 0), (112, .iconst 1, 1, 0, 0), (113, .goto 4, 3, 69, 0), (116, .iconst 0, 1, 0, 0), (117, .ireturn, 1, 0, 0)]
/-- ParserProofModel.reduce(I)Z -/
def L_48 : List ab_I := [(0, .iconst 1, 1, 0, 0), (1, .istore_n 2, 1, 0, 0), (2, .iconst 0, 1, 0, 0), (3, .istore_n 3, 1, 0, 0), (4, .iload_n 3, 1, 0, 0), (5, .bipush 30, 2, 0, 0), (7, .aload_n 0, 1, 0, 0), (8, .getfield 89, 3, 6, 1), (11, .iconst 1, 1, 0, 0), (12, .iadd, 1, 0, 0), (13, .imul, 1, 0, 0), (14, .if_icmp .ge 137, 3, 89, 0), (17, .iload_n 3, 1, 0, 0), (18, .bipush 30, 2, 0, 0), (20, .idiv, 1, 0, 0), (21, .istore 4, 2, 0, 0), (23, .iload_n 3, 1, 0, 0), (24, .bipush 6, 2, 0, 0), (26, .irem, 1, 0, 0), (27, .iconst 4, 1, 0, 0), (28, .iadd, 1, 0, 0), (29, .istore 5, 2, 0, 0), (31, .aload_n 0, 1, 0, 0), (32, .getfield 26, 3, 6, 8), (35, .sipush 270, 3, 0, 0), (38, .iload_n 1, 1, 0, 0), (39, .imul, 1, 0, 0), (40, .iload_n 3, 1, 0, 0), (41, .iadd, 1, 0, 0), (42, .baload, 1, 0, 0), (43, .ifCond .eq 102, 3, 87, 0), (46, .aload_n 0, 1, 0, 0), (47, .iload 4, 2, 0, 0), (49, .iload_n 3, 1, 0, 0), (50, .bipush 30, 2, 0, 0), (52, .irem, 1, 0, 0), (53, .bipush 6, 2, 0, 0), (55, .idiv, 1, 0, 0), (56, .invokevirtual 108, 3, 36, 0), (59, .iconst (-1), 1, 0, 0), (60, .if_icmp .eq 6, 3, 42, 0), (63, .goto 82, 3, 87, 0), (66, .iload 4, 2, 0, 0), (68, .aload_n 0, 1, 0, 0), (69, .getfield 89, 3, 6, 1), (72, .if_icmp .ne 9, 3, 48, 0), (75, .sipush 200, 3, 0, 0), (78, .goto 8, 3, 51, 0), (81, .bipush 100, 2, 0, 0), (83, .iload 4, 2, 0, 0), (85, .iadd, 1, 0, 0), (86, .istore 6, 2, 0, 0), (88, .iload_n 2, 1, 0, 0), (89, .ifCond .eq 40, 3, 76, 0), (92, .aload_n 0, 1, 0, 0), (93, .getfield 29, 3, 6, 9), (96, .bipush 10, 2, 0, 0), (98, .iload_n 1, 1, 0, 0), (99, .imul, 1, 0, 0), (100, .iload 5, 2, 0, 0), (102, .iadd, 1, 0, 0), (103, .iaload, 1, 0, 0), (104, .iconst (-1), 1, 0, 0), (105, .if_icmp .eq 20, 3, 74, 0), (108, .aload_n 0, 1, 0, 0), (109, .getfield 29, 3, 6, 9), (112, .bipush 10, 2, 0, 0), (114, .iload_n 1, 1, 0, 0), (115, .imul, 1, 0, 0), (116, .iload 5, 2, 0, 0), (118, .iadd, 1, 0, 0), (119, .iaload, 1, 0, 0), (120, .iload 6, 2, 0, 0), (122, .if_icmp .ne 7, 3, 76, 0), (125, .iconst 1, 1, 0, 0), (126, .goto 4, 3, 77, 0), (129, .iconst 0, 1, 0, 0), (130, .istore_n 2, 1, 0, 0), (131, .aload_n 0, 1, 0, 0), (132, .getfield 29, 3, 6, 9), (135, .bipush 10, 2, 0, 0), (137, .iload_n 1, 1, 0, 0), (138, .imul, 1, 0, 0), (139, .iload 5, 2, 0, 0), (141, .iadd, 1, 0, 0), (142, .iload 6, 2, 0, 0), (144, .iastore, 1, 0, 0), (145, .iinc 3 1, 3, 0, 0), (148, .goto (-144), 3, 4, 0), (151, .iload_n 2, 1, 0, 0), (152, .ireturn, 1, 0, 0)]
/-- ParserProofModel.build()I -/
def L_49 : List ab_I := [(0, .aload_n 0, 1, 0, 0), (1, .iconst 0, 1, 0, 0), (2, .putfield 75, 3, 6, 0), (5, .aload_n 0, 1, 0, 0), (6, .getfield 89, 3, 6, 1), (9, .ifCond .ne 9, 3, 10, 0), (12, .aload_n 0, 1, 0, 0), (13, .iconst 1, 1, 0, 0), (14, .invokevirtual 85, 3, 29, 0), (17, .ireturn, 1, 0, 0), (18, .aload_n 0, 1, 0, 0), (19, .invokevirtual 92, 3, 33, 0), (22, .aload_n 0, 1, 0, 0), (23, .invokevirtual 144, 3, 39, 0), (26, .aload_n 0, 1, 0, 0), (27, .invokevirtual 134, 3, 44, 0), (30, .aload_n 0, 1, 0, 0), (31, .aload_n 0, 1, 0, 0), (32, .getfield 89, 3, 6, 1), (35, .iconst 0, 1, 0, 0), (36, .bipush 9, 2, 0, 0), (38, .invokestatic 120, 3, 41, 0), (41, .invokevirtual 130, 3, 43, 0), (44, .aload_n 0, 1, 0, 0), (45, .invokevirtual 137, 3, 45, 0), (48, .aload_n 0, 1, 0, 0), (49, .invokevirtual 140, 3, 46, 0), (52, .pop, 1, 0, 0), (53, .iconst 1, 1, 0, 0), (54, .istore_n 1, 1, 0, 0), (55, .iconst 0, 1, 0, 0), (56, .istore_n 2, 1, 0, 0), (57, .iload_n 2, 1, 0, 0), (58, .aload_n 0, 1, 0, 0), (59, .getfield 95, 3, 6, 7), (62, .if_icmp .ge 56, 3, 64, 0), (65, .iload_n 1, 1, 0, 0), (66, .ifCond .eq 52, 3, 64, 0), (69, .iconst 0, 1, 0, 0), (70, .istore_n 3, 1, 0, 0), (71, .iload_n 3, 1, 0, 0), (72, .bipush 9, 2, 0, 0), (74, .if_icmp .ge 20, 3, 52, 0), (77, .iload_n 1, 1, 0, 0), (78, .ifCond .eq 16, 3, 52, 0), (81, .aload_n 0, 1, 0, 0), (82, .iload_n 2, 1, 0, 0), (83, .iload_n 3, 1, 0, 0), (84, .invokevirtual 147, 3, 47, 0), (87, .istore_n 1, 1, 0, 0), (88, .iinc 3 1, 3, 0, 0), (91, .goto (-20), 3, 40, 0), (94, .iload_n 1, 1, 0, 0), (95, .ifCond .eq 15, 3, 60, 0), (98, .aload_n 0, 1, 0, 0), (99, .iload_n 2, 1, 0, 0), (100, .invokevirtual 151, 3, 48, 0), (103, .ifCond .eq 7, 3, 60, 0), (106, .iconst 1, 1, 0, 0), (107, .goto 4, 3, 61, 0), (110, .iconst 0, 1, 0, 0), (111, .istore_n 1, 1, 0, 0), (112, .iinc 2 1, 3, 0, 0), (115, .goto (-58), 3, 32, 0), (118, .iload_n 1, 1, 0, 0), (119, .ifCond .eq 8, 3, 69, 0), (122, .aload_n 0, 1, 0, 0), (123, .getfield 95, 3, 6, 7), (126, .ireturn, 1, 0, 0), (127, .aload_n 0, 1, 0, 0), (128, .iconst 0, 1, 0, 0), (129, .putfield 95, 3, 6, 7), (132, .aload_n 0, 1, 0, 0), (133, .iconst 2, 1, 0, 0), (134, .invokevirtual 85, 3, 29, 0), (137, .ireturn, 1, 0, 0)]
/-- ParserProofModel.states()I -/
def L_50 : List ab_I := [(0, .aload_n 0, 1, 0, 0), (1, .iconst 0, 1, 0, 0), (2, .putfield 75, 3, 6, 0), (5, .aload_n 0, 1, 0, 0), (6, .getfield 95, 3, 6, 7), (9, .ireturn, 1, 0, 0)]
/-- ParserProofModel.isState(I)Z -/
def L_51 : List ab_I := [(0, .iload_n 1, 1, 0, 0), (1, .ifCond .lt 15, 3, 8, 0), (4, .iload_n 1, 1, 0, 0), (5, .aload_n 0, 1, 0, 0), (6, .getfield 95, 3, 6, 7), (9, .if_icmp .ge 7, 3, 8, 0), (12, .iconst 1, 1, 0, 0), (13, .goto 4, 3, 9, 0), (16, .iconst 0, 1, 0, 0), (17, .ireturn, 1, 0, 0)]
/-- ParserProofModel.isSymbol(I)Z -/
def L_52 : List ab_I := [(0, .iload_n 0, 1, 0, 0), (1, .ifCond .lt 13, 3, 7, 0), (4, .iload_n 0, 1, 0, 0), (5, .bipush 9, 2, 0, 0), (7, .if_icmp .gt 7, 3, 7, 0), (10, .iconst 1, 1, 0, 0), (11, .goto 4, 3, 8, 0), (14, .iconst 0, 1, 0, 0), (15, .ireturn, 1, 0, 0)]
/-- ParserProofModel.entry(II)I -/
def L_53 : List ab_I := [(0, .aload_n 0, 1, 0, 0), (1, .iconst 0, 1, 0, 0), (2, .putfield 75, 3, 6, 0), (5, .aload_n 0, 1, 0, 0), (6, .iload_n 1, 1, 0, 0), (7, .invokevirtual 154, 3, 51, 0), (10, .ifCond .eq 24, 3, 19, 0), (13, .iload_n 2, 1, 0, 0), (14, .invokestatic 157, 3, 52, 0), (17, .ifCond .eq 17, 3, 19, 0), (20, .aload_n 0, 1, 0, 0), (21, .getfield 29, 3, 6, 9), (24, .bipush 10, 2, 0, 0), (26, .iload_n 1, 1, 0, 0), (27, .imul, 1, 0, 0), (28, .iload_n 2, 1, 0, 0), (29, .iadd, 1, 0, 0), (30, .iaload, 1, 0, 0), (31, .goto 8, 3, 22, 0), (34, .aload_n 0, 1, 0, 0), (35, .iconst 1, 1, 0, 0), (36, .invokevirtual 85, 3, 29, 0), (39, .ireturn, 1, 0, 0)]
/-- ParserProofModel.set(III)V -/
def L_54 : List ab_I := [(0, .iload_n 3, 1, 0, 0), (1, .iconst (-1), 1, 0, 0), (2, .if_icmp .eq 35, 3, 19, 0), (5, .aload_n 0, 1, 0, 0), (6, .iload_n 3, 1, 0, 0), (7, .invokevirtual 154, 3, 51, 0), (10, .ifCond .ne 27, 3, 19, 0), (13, .iload_n 3, 1, 0, 0), (14, .bipush 100, 2, 0, 0), (16, .if_icmp .lt 14, 3, 16, 0), (19, .iload_n 3, 1, 0, 0), (20, .bipush 100, 2, 0, 0), (22, .aload_n 0, 1, 0, 0), (23, .getfield 89, 3, 6, 1), (26, .iadd, 1, 0, 0), (27, .if_icmp .le 10, 3, 19, 0), (30, .iload_n 3, 1, 0, 0), (31, .sipush 200, 3, 0, 0), (34, .if_icmp .ne 7, 3, 21, 0), (37, .iconst 1, 1, 0, 0), (38, .goto 4, 3, 22, 0), (41, .iconst 0, 1, 0, 0), (42, .istore 4, 2, 0, 0), (44, .aload_n 0, 1, 0, 0), (45, .aload_n 0, 1, 0, 0), (46, .iload_n 1, 1, 0, 0), (47, .invokevirtual 154, 3, 51, 0), (50, .ifCond .eq 10, 3, 31, 0), (53, .iload_n 2, 1, 0, 0), (54, .invokestatic 157, 3, 52, 0), (57, .ifCond .ne 7, 3, 33, 0), (60, .iconst 1, 1, 0, 0), (61, .goto 13, 3, 38, 0), (64, .iload 4, 2, 0, 0), (66, .ifCond .eq 7, 3, 37, 0), (69, .iconst 0, 1, 0, 0), (70, .goto 4, 3, 38, 0), (73, .iconst 2, 1, 0, 0), (74, .putfield 75, 3, 6, 0), (77, .aload_n 0, 1, 0, 0), (78, .getfield 75, 3, 6, 0), (81, .ifCond .le 4, 3, 43, 0), (84, .return_, 1, 0, 0), (85, .aload_n 0, 1, 0, 0), (86, .getfield 29, 3, 6, 9), (89, .bipush 10, 2, 0, 0), (91, .iload_n 1, 1, 0, 0), (92, .imul, 1, 0, 0), (93, .iload_n 2, 1, 0, 0), (94, .iadd, 1, 0, 0), (95, .iload_n 3, 1, 0, 0), (96, .iastore, 1, 0, 0), (97, .aload_n 0, 1, 0, 0), (98, .invokevirtual 98, 3, 30, 0), (101, .return_, 1, 0, 0)]
/-- ParserProofModel.isItem(III)Z -/
def L_55 : List ab_I := [(0, .iload_n 1, 1, 0, 0), (1, .ifCond .lt 39, 3, 21, 0), (4, .iload_n 1, 1, 0, 0), (5, .aload_n 0, 1, 0, 0), (6, .getfield 89, 3, 6, 1), (9, .if_icmp .gt 31, 3, 21, 0), (12, .iload_n 2, 1, 0, 0), (13, .ifCond .lt 27, 3, 21, 0), (16, .iload_n 2, 1, 0, 0), (17, .aload_n 0, 1, 0, 0), (18, .iload_n 1, 1, 0, 0), (19, .invokevirtual 105, 3, 35, 0), (22, .if_icmp .gt 18, 3, 21, 0), (25, .iload_n 3, 1, 0, 0), (26, .iconst 4, 1, 0, 0), (27, .if_icmp .lt 13, 3, 21, 0), (30, .iload_n 3, 1, 0, 0), (31, .bipush 9, 2, 0, 0), (33, .if_icmp .gt 7, 3, 21, 0), (36, .iconst 1, 1, 0, 0), (37, .goto 4, 3, 22, 0), (40, .iconst 0, 1, 0, 0), (41, .ireturn, 1, 0, 0)]
/-- ParserProofModel.has(IIII)Z -/
def L_56 : List ab_I := [(0, .aload_n 0, 1, 0, 0), (1, .aload_n 0, 1, 0, 0), (2, .iload_n 1, 1, 0, 0), (3, .invokevirtual 154, 3, 51, 0), (6, .ifCond .ne 7, 3, 7, 0), (9, .iconst 1, 1, 0, 0), (10, .goto 19, 3, 16, 0), (13, .aload_n 0, 1, 0, 0), (14, .iload_n 2, 1, 0, 0), (15, .iload_n 3, 1, 0, 0), (16, .iload 4, 2, 0, 0), (18, .invokevirtual 160, 3, 55, 0), (21, .ifCond .eq 7, 3, 15, 0), (24, .iconst 0, 1, 0, 0), (25, .goto 4, 3, 16, 0), (28, .iconst 2, 1, 0, 0), (29, .putfield 75, 3, 6, 0), (32, .aload_n 0, 1, 0, 0), (33, .getfield 75, 3, 6, 0), (36, .ifCond .ne 19, 3, 29, 0), (39, .aload_n 0, 1, 0, 0), (40, .iload_n 1, 1, 0, 0), (41, .iload_n 2, 1, 0, 0), (42, .iload_n 3, 1, 0, 0), (43, .iload 4, 2, 0, 0), (45, .invokevirtual 163, 3, 42, 0), (48, .ifCond .eq 7, 3, 29, 0), (51, .iconst 1, 1, 0, 0), (52, .goto 4, 3, 30, 0), (55, .iconst 0, 1, 0, 0), (56, .ireturn, 1, 0, 0)]
/-- ParserProofModel.turn(IIII)Z -/
def L_57 : List ab_I := [(0, .aload_n 0, 1, 0, 0), (1, .aload_n 0, 1, 0, 0), (2, .iload_n 1, 1, 0, 0), (3, .invokevirtual 154, 3, 51, 0), (6, .ifCond .ne 7, 3, 7, 0), (9, .iconst 1, 1, 0, 0), (10, .goto 19, 3, 16, 0), (13, .aload_n 0, 1, 0, 0), (14, .iload_n 2, 1, 0, 0), (15, .iload_n 3, 1, 0, 0), (16, .iload 4, 2, 0, 0), (18, .invokevirtual 160, 3, 55, 0), (21, .ifCond .eq 7, 3, 15, 0), (24, .iconst 0, 1, 0, 0), (25, .goto 4, 3, 16, 0), (28, .iconst 2, 1, 0, 0), (29, .putfield 75, 3, 6, 0), (32, .aload_n 0, 1, 0, 0), (33, .getfield 75, 3, 6, 0), (36, .ifCond .le 5, 3, 22, 0), (39, .iconst 0, 1, 0, 0), (40, .ireturn, 1, 0, 0), (41, .sipush 270, 3, 0, 0), (44, .iload_n 1, 1, 0, 0), (45, .imul, 1, 0, 0), (46, .iload_n 2, 1, 0, 0), (47, .iload_n 3, 1, 0, 0), (48, .iload 4, 2, 0, 0), (50, .invokestatic 120, 3, 41, 0), (53, .iadd, 1, 0, 0), (54, .istore 5, 2, 0, 0), (56, .aload_n 0, 1, 0, 0), (57, .getfield 26, 3, 6, 8), (60, .iload 5, 2, 0, 0), (62, .aload_n 0, 1, 0, 0), (63, .getfield 26, 3, 6, 8), (66, .iload 5, 2, 0, 0), (68, .baload, 1, 0, 0), (69, .ifCond .ne 7, 3, 41, 0), (72, .iconst 1, 1, 0, 0), (73, .goto 4, 3, 42, 0), (76, .iconst 0, 1, 0, 0), (77, .bastore, 1, 0, 0), (78, .aload_n 0, 1, 0, 0), (79, .getfield 26, 3, 6, 8), (82, .iload 5, 2, 0, 0), (84, .baload, 1, 0, 0), (85, .ireturn, 1, 0, 0)]
/-- ParserProofModel.goes(II)Z -/
def L_58 : List ab_I := [(0, .aload_n 0, 1, 0, 0), (1, .getfield 29, 3, 6, 9), (4, .bipush 10, 2, 0, 0), (6, .iload_n 1, 1, 0, 0), (7, .imul, 1, 0, 0), (8, .iload_n 2, 1, 0, 0), (9, .iadd, 1, 0, 0), (10, .iaload, 1, 0, 0), (11, .istore_n 3, 1, 0, 0), (12, .iload_n 3, 1, 0, 0), (13, .ifCond .lt 13, 3, 16, 0), (16, .iload_n 3, 1, 0, 0), (17, .bipush 100, 2, 0, 0), (19, .if_icmp .ge 7, 3, 16, 0), (22, .iconst 1, 1, 0, 0), (23, .goto 4, 3, 17, 0), (26, .iconst 0, 1, 0, 0), (27, .ireturn, 1, 0, 0)]
/-- ParserProofModel.isAnswered(IIII)Z -/
def L_59 : List ab_I := [(0, .iconst 1, 1, 0, 0), (1, .istore 5, 2, 0, 0), (3, .iconst 0, 1, 0, 0), (4, .istore 6, 2, 0, 0), (6, .iload 6, 2, 0, 0), (8, .aload_n 0, 1, 0, 0), (9, .getfield 89, 3, 6, 1), (12, .if_icmp .ge 81, 3, 48, 0), (15, .iconst 4, 1, 0, 0), (16, .istore 7, 2, 0, 0), (18, .iload 7, 2, 0, 0), (20, .bipush 9, 2, 0, 0), (22, .if_icmp .gt 65, 3, 46, 0), (25, .aload_n 0, 1, 0, 0), (26, .getfield 7, 3, 6, 2), (29, .iload 6, 2, 0, 0), (31, .iaload, 1, 0, 0), (32, .aload_n 0, 1, 0, 0), (33, .iload_n 2, 1, 0, 0), (34, .iload_n 3, 1, 0, 0), (35, .invokevirtual 108, 3, 36, 0), (38, .if_icmp .ne 49, 3, 46, 0), (41, .iload 5, 2, 0, 0), (43, .ifCond .eq 35, 3, 42, 0), (46, .aload_n 0, 1, 0, 0), (47, .iload 7, 2, 0, 0), (49, .iload_n 2, 1, 0, 0), (50, .iload_n 3, 1, 0, 0), (51, .iconst 1, 1, 0, 0), (52, .iadd, 1, 0, 0), (53, .iload 4, 2, 0, 0), (55, .invokevirtual 127, 3, 40, 0), (58, .ifCond .eq 16, 3, 40, 0), (61, .aload_n 0, 1, 0, 0), (62, .iload_n 1, 1, 0, 0), (63, .iload 6, 2, 0, 0), (65, .iconst 0, 1, 0, 0), (66, .iload 7, 2, 0, 0), (68, .invokevirtual 163, 3, 42, 0), (71, .ifCond .eq 7, 3, 42, 0), (74, .iconst 1, 1, 0, 0), (75, .goto 4, 3, 43, 0), (78, .iconst 0, 1, 0, 0), (79, .istore 5, 2, 0, 0), (81, .iinc 7 1, 3, 0, 0), (84, .goto (-66), 3, 10, 0), (87, .iinc 6 1, 3, 0, 0), (90, .goto (-84), 3, 4, 0), (93, .iload 5, 2, 0, 0), (95, .ireturn, 1, 0, 0)]
/-- ParserProofModel.isBad(IIIII)Z -/
def L_60 : List ab_I := [(0, .aload_n 0, 1, 0, 0), (1, .iload_n 3, 1, 0, 0), (2, .iload 4, 2, 0, 0), (4, .invokevirtual 108, 3, 36, 0), (7, .istore 6, 2, 0, 0), (9, .iload_n 3, 1, 0, 0), (10, .aload_n 0, 1, 0, 0), (11, .getfield 89, 3, 6, 1), (14, .if_icmp .ne 7, 3, 11, 0), (17, .iconst 1, 1, 0, 0), (18, .goto 4, 3, 12, 0), (21, .iconst 0, 1, 0, 0), (22, .istore 7, 2, 0, 0), (24, .iload_n 1, 1, 0, 0), (25, .iconst 1, 1, 0, 0), (26, .if_icmp .ne 36, 3, 32, 0), (29, .iload_n 2, 1, 0, 0), (30, .ifCond .ne 16, 3, 24, 0), (33, .iload 4, 2, 0, 0), (35, .ifCond .le 7, 3, 22, 0), (38, .iconst 1, 1, 0, 0), (39, .goto 22, 3, 31, 0), (42, .iconst 0, 1, 0, 0), (43, .goto 18, 3, 31, 0), (46, .iload 7, 2, 0, 0), (48, .ifCond .eq 12, 3, 30, 0), (51, .iload 4, 2, 0, 0), (53, .ifCond .ne 7, 3, 30, 0), (56, .iconst 1, 1, 0, 0), (57, .goto 4, 3, 31, 0), (60, .iconst 0, 1, 0, 0), (61, .ireturn, 1, 0, 0), (62, .iload_n 1, 1, 0, 0), (63, .iconst 4, 1, 0, 0), (64, .if_icmp .ne 33, 3, 51, 0), (67, .iload 7, 2, 0, 0), (69, .ifCond .ne 26, 3, 49, 0), (72, .iload 4, 2, 0, 0), (74, .ifCond .ne 21, 3, 49, 0), (77, .aload_n 0, 1, 0, 0), (78, .iload_n 2, 1, 0, 0), (79, .aload_n 0, 1, 0, 0), (80, .getfield 7, 3, 6, 2), (83, .iload_n 3, 1, 0, 0), (84, .iaload, 1, 0, 0), (85, .invokevirtual 166, 3, 58, 0), (88, .ifCond .ne 7, 3, 49, 0), (91, .iconst 1, 1, 0, 0), (92, .goto 4, 3, 50, 0), (95, .iconst 0, 1, 0, 0), (96, .ireturn, 1, 0, 0), (97, .iload_n 1, 1, 0, 0), (98, .bipush 6, 2, 0, 0), (100, .if_icmp .ne 34, 3, 71, 0), (103, .iload 6, 2, 0, 0), (105, .iconst (-1), 1, 0, 0), (106, .if_icmp .eq 26, 3, 69, 0), (109, .iload 6, 2, 0, 0), (111, .iconst 4, 1, 0, 0), (112, .if_icmp .ge 20, 3, 69, 0), (115, .aload_n 0, 1, 0, 0), (116, .iload_n 2, 1, 0, 0), (117, .iload_n 3, 1, 0, 0), (118, .iload 4, 2, 0, 0), (120, .iload 5, 2, 0, 0), (122, .invokevirtual 169, 3, 59, 0), (125, .ifCond .ne 7, 3, 69, 0), (128, .iconst 1, 1, 0, 0), (129, .goto 4, 3, 70, 0), (132, .iconst 0, 1, 0, 0), (133, .ireturn, 1, 0, 0), (134, .iload_n 1, 1, 0, 0), (135, .bipush 7, 2, 0, 0), (137, .if_icmp .ne 51, 3, 102, 0), (140, .iload 6, 2, 0, 0), (142, .iconst (-1), 1, 0, 0), (143, .if_icmp .eq 43, 3, 100, 0), (146, .aload_n 0, 1, 0, 0), (147, .iload_n 2, 1, 0, 0), (148, .iload 6, 2, 0, 0), (150, .invokevirtual 166, 3, 58, 0), (153, .ifCond .eq 29, 3, 98, 0), (156, .aload_n 0, 1, 0, 0), (157, .aload_n 0, 1, 0, 0), (158, .getfield 29, 3, 6, 9), (161, .bipush 10, 2, 0, 0), (163, .iload_n 2, 1, 0, 0), (164, .imul, 1, 0, 0), (165, .iload 6, 2, 0, 0), (167, .iadd, 1, 0, 0), (168, .iaload, 1, 0, 0), (169, .iload_n 3, 1, 0, 0), (170, .iload 4, 2, 0, 0), (172, .iconst 1, 1, 0, 0), (173, .iadd, 1, 0, 0), (174, .iload 5, 2, 0, 0), (176, .invokevirtual 163, 3, 42, 0), (179, .ifCond .ne 7, 3, 100, 0), (182, .iconst 1, 1, 0, 0), (183, .goto 4, 3, 101, 0), (186, .iconst 0, 1, 0, 0), (187, .ireturn, 1, 0, 0), (188, .iload 6, 2, 0, 0), (190, .iconst (-1), 1, 0, 0), (191, .if_icmp .ne 37, 3, 123, 0), (194, .aload_n 0, 1, 0, 0), (195, .getfield 29, 3, 6, 9), (198, .bipush 10, 2, 0, 0), (200, .iload_n 2, 1, 0, 0), (201, .imul, 1, 0, 0), (202, .iload 5, 2, 0, 0), (204, .iadd, 1, 0, 0), (205, .iaload, 1, 0, 0), (206, .iload 7, 2, 0, 0), (208, .ifCond .eq 9, 3, 117, 0), (211, .sipush 200, 3, 0, 0), (214, .goto 7, 3, 120, 0), (217, .bipush 100, 2, 0, 0), (219, .iload_n 3, 1, 0, 0), (220, .iadd, 1, 0, 0), (221, .if_icmp .eq 7, 3, 123, 0), (224, .iconst 1, 1, 0, 0), (225, .goto 4, 3, 124, 0), (228, .iconst 0, 1, 0, 0), (229, .ireturn, 1, 0, 0)]
/-- ParserProofModel.hasBadItem(I)Z -/
def L_61 : List ab_I := [(0, .iconst 0, 1, 0, 0), (1, .istore_n 2, 1, 0, 0), (2, .iload_n 2, 1, 0, 0), (3, .aload_n 0, 1, 0, 0), (4, .getfield 95, 3, 6, 7), (7, .if_icmp .ge 92, 3, 56, 0), (10, .iconst 0, 1, 0, 0), (11, .istore_n 3, 1, 0, 0), (12, .iload_n 3, 1, 0, 0), (13, .sipush 270, 3, 0, 0), (16, .if_icmp .ge 77, 3, 54, 0), (19, .aload_n 0, 1, 0, 0), (20, .getfield 26, 3, 6, 8), (23, .sipush 270, 3, 0, 0), (26, .iload_n 2, 1, 0, 0), (27, .imul, 1, 0, 0), (28, .iload_n 3, 1, 0, 0), (29, .iadd, 1, 0, 0), (30, .baload, 1, 0, 0), (31, .ifCond .ne 6, 3, 21, 0), (34, .goto 53, 3, 52, 0), (37, .iload_n 3, 1, 0, 0), (38, .bipush 30, 2, 0, 0), (40, .idiv, 1, 0, 0), (41, .istore 4, 2, 0, 0), (43, .iload_n 3, 1, 0, 0), (44, .bipush 30, 2, 0, 0), (46, .irem, 1, 0, 0), (47, .bipush 6, 2, 0, 0), (49, .idiv, 1, 0, 0), (50, .istore 5, 2, 0, 0), (52, .iload_n 3, 1, 0, 0), (53, .bipush 6, 2, 0, 0), (55, .irem, 1, 0, 0), (56, .iconst 4, 1, 0, 0), (57, .iadd, 1, 0, 0), (58, .istore 6, 2, 0, 0), (60, .aload_n 0, 1, 0, 0), (61, .iload_n 1, 1, 0, 0), (62, .iload_n 2, 1, 0, 0), (63, .iload 4, 2, 0, 0), (65, .iload 5, 2, 0, 0), (67, .iload 6, 2, 0, 0), (69, .invokevirtual 172, 3, 60, 0), (72, .ifCond .eq 15, 3, 52, 0), (75, .aload_n 0, 1, 0, 0), (76, .iload_n 2, 1, 0, 0), (77, .iload 4, 2, 0, 0), (79, .iload 5, 2, 0, 0), (81, .iload 6, 2, 0, 0), (83, .invokevirtual 101, 3, 31, 0), (86, .ireturn, 1, 0, 0), (87, .iinc 3 1, 3, 0, 0), (90, .goto (-78), 3, 8, 0), (93, .iinc 2 1, 3, 0, 0), (96, .goto (-94), 3, 2, 0), (99, .iconst 0, 1, 0, 0), (100, .ireturn, 1, 0, 0)]
/-- ParserProofModel.isForeign(II)Z -/
def L_62 : List ab_I := [(0, .aload_n 0, 1, 0, 0), (1, .iload_n 1, 1, 0, 0), (2, .iload_n 2, 1, 0, 0), (3, .invokevirtual 166, 3, 58, 0), (6, .ifCond .ne 5, 3, 7, 0), (9, .iconst 0, 1, 0, 0), (10, .ireturn, 1, 0, 0), (11, .aload_n 0, 1, 0, 0), (12, .getfield 29, 3, 6, 9), (15, .bipush 10, 2, 0, 0), (17, .iload_n 1, 1, 0, 0), (18, .imul, 1, 0, 0), (19, .iload_n 2, 1, 0, 0), (20, .iadd, 1, 0, 0), (21, .iaload, 1, 0, 0), (22, .istore_n 3, 1, 0, 0), (23, .iconst 0, 1, 0, 0), (24, .istore 4, 2, 0, 0), (26, .iconst 0, 1, 0, 0), (27, .istore 5, 2, 0, 0), (29, .iload 5, 2, 0, 0), (31, .sipush 270, 3, 0, 0), (34, .if_icmp .ge 92, 3, 71, 0), (37, .iload 5, 2, 0, 0), (39, .bipush 30, 2, 0, 0), (41, .idiv, 1, 0, 0), (42, .istore 6, 2, 0, 0), (44, .iload 5, 2, 0, 0), (46, .bipush 30, 2, 0, 0), (48, .irem, 1, 0, 0), (49, .bipush 6, 2, 0, 0), (51, .idiv, 1, 0, 0), (52, .istore 7, 2, 0, 0), (54, .iload 7, 2, 0, 0), (56, .ifCond .le 64, 3, 69, 0), (59, .aload_n 0, 1, 0, 0), (60, .getfield 26, 3, 6, 8), (63, .sipush 270, 3, 0, 0), (66, .iload_n 3, 1, 0, 0), (67, .imul, 1, 0, 0), (68, .iload 5, 2, 0, 0), (70, .iadd, 1, 0, 0), (71, .baload, 1, 0, 0), (72, .ifCond .eq 48, 3, 69, 0), (75, .iload 4, 2, 0, 0), (77, .ifCond .ne 36, 3, 65, 0), (80, .aload_n 0, 1, 0, 0), (81, .iload 6, 2, 0, 0), (83, .iload 7, 2, 0, 0), (85, .iconst 1, 1, 0, 0), (86, .isub, 1, 0, 0), (87, .invokevirtual 108, 3, 36, 0), (90, .iload_n 2, 1, 0, 0), (91, .if_icmp .ne 22, 3, 65, 0), (94, .aload_n 0, 1, 0, 0), (95, .getfield 26, 3, 6, 8), (98, .sipush 270, 3, 0, 0), (101, .iload_n 1, 1, 0, 0), (102, .imul, 1, 0, 0), (103, .iload 5, 2, 0, 0), (105, .iadd, 1, 0, 0), (106, .bipush 6, 2, 0, 0), (108, .isub, 1, 0, 0), (109, .baload, 1, 0, 0), (110, .ifCond .ne 7, 3, 67, 0), (113, .iconst 1, 1, 0, 0), (114, .goto 4, 3, 68, 0), (117, .iconst 0, 1, 0, 0), (118, .istore 4, 2, 0, 0), (120, .iinc 5 1, 3, 0, 0), (123, .goto (-94), 3, 20, 0), (126, .iload 4, 2, 0, 0), (128, .ireturn, 1, 0, 0)]
/-- ParserProofModel.isBold(II)Z -/
def L_63 : List ab_I := [(0, .aload_n 0, 1, 0, 0), (1, .getfield 29, 3, 6, 9), (4, .bipush 10, 2, 0, 0), (6, .iload_n 1, 1, 0, 0), (7, .imul, 1, 0, 0), (8, .iload_n 2, 1, 0, 0), (9, .iadd, 1, 0, 0), (10, .iaload, 1, 0, 0), (11, .istore_n 3, 1, 0, 0), (12, .iload_n 3, 1, 0, 0), (13, .iconst (-1), 1, 0, 0), (14, .if_icmp .ne 5, 3, 14, 0), (17, .iconst 0, 1, 0, 0), (18, .ireturn, 1, 0, 0), (19, .aload_n 0, 1, 0, 0), (20, .iload_n 1, 1, 0, 0), (21, .iload_n 2, 1, 0, 0), (22, .invokevirtual 166, 3, 58, 0), (25, .ifCond .eq 19, 3, 28, 0), (28, .iload_n 3, 1, 0, 0), (29, .ifCond .eq 9, 3, 24, 0), (32, .iload_n 2, 1, 0, 0), (33, .bipush 9, 2, 0, 0), (35, .if_icmp .ne 7, 3, 26, 0), (38, .iconst 1, 1, 0, 0), (39, .goto 4, 3, 27, 0), (42, .iconst 0, 1, 0, 0), (43, .ireturn, 1, 0, 0), (44, .iload_n 3, 1, 0, 0), (45, .sipush 200, 3, 0, 0), (48, .if_icmp .ne 10, 3, 34, 0), (51, .aload_n 0, 1, 0, 0), (52, .getfield 89, 3, 6, 1), (55, .goto 7, 3, 37, 0), (58, .iload_n 3, 1, 0, 0), (59, .bipush 100, 2, 0, 0), (61, .isub, 1, 0, 0), (62, .istore 4, 2, 0, 0), (64, .iload_n 2, 1, 0, 0), (65, .iconst 4, 1, 0, 0), (66, .if_icmp .lt 33, 3, 56, 0), (69, .iload_n 3, 1, 0, 0), (70, .sipush 200, 3, 0, 0), (73, .if_icmp .ne 9, 3, 47, 0), (76, .iload_n 2, 1, 0, 0), (77, .bipush 9, 2, 0, 0), (79, .if_icmp .ne 20, 3, 56, 0), (82, .aload_n 0, 1, 0, 0), (83, .iload_n 1, 1, 0, 0), (84, .iload 4, 2, 0, 0), (86, .aload_n 0, 1, 0, 0), (87, .iload 4, 2, 0, 0), (89, .invokevirtual 105, 3, 35, 0), (92, .iload_n 2, 1, 0, 0), (93, .invokevirtual 163, 3, 42, 0), (96, .ifCond .ne 7, 3, 58, 0), (99, .iconst 1, 1, 0, 0), (100, .goto 4, 3, 59, 0), (103, .iconst 0, 1, 0, 0), (104, .ireturn, 1, 0, 0)]
/-- ParserProofModel.hasBadEntry(I)Z -/
def L_64 : List ab_I := [(0, .iconst 0, 1, 0, 0), (1, .istore_n 2, 1, 0, 0), (2, .iload_n 2, 1, 0, 0), (3, .aload_n 0, 1, 0, 0), (4, .getfield 95, 3, 6, 7), (7, .if_icmp .ge 58, 3, 36, 0), (10, .iconst 0, 1, 0, 0), (11, .istore_n 3, 1, 0, 0), (12, .iload_n 3, 1, 0, 0), (13, .bipush 9, 2, 0, 0), (15, .if_icmp .gt 44, 3, 34, 0), (18, .iload_n 1, 1, 0, 0), (19, .iconst 2, 1, 0, 0), (20, .if_icmp .ne 15, 3, 20, 0), (23, .aload_n 0, 1, 0, 0), (24, .iload_n 2, 1, 0, 0), (25, .iload_n 3, 1, 0, 0), (26, .invokevirtual 176, 3, 62, 0), (29, .ifCond .eq 24, 3, 32, 0), (32, .goto 12, 3, 25, 0), (35, .aload_n 0, 1, 0, 0), (36, .iload_n 2, 1, 0, 0), (37, .iload_n 3, 1, 0, 0), (38, .invokevirtual 179, 3, 63, 0), (41, .ifCond .eq 12, 3, 32, 0), (44, .aload_n 0, 1, 0, 0), (45, .iload_n 2, 1, 0, 0), (46, .iload_n 3, 1, 0, 0), (47, .iconst (-1), 1, 0, 0), (48, .iconst (-1), 1, 0, 0), (49, .invokevirtual 101, 3, 31, 0), (52, .ireturn, 1, 0, 0), (53, .iinc 3 1, 3, 0, 0), (56, .goto (-44), 3, 8, 0), (59, .iinc 2 1, 3, 0, 0), (62, .goto (-60), 3, 2, 0), (65, .iconst 0, 1, 0, 0), (66, .ireturn, 1, 0, 0)]
/-- ParserProofModel.check()I -/
def L_65 : List ab_I := [(0, .aload_n 0, 1, 0, 0), (1, .iconst 0, 1, 0, 0), (2, .putfield 75, 3, 6, 0), (5, .aload_n 0, 1, 0, 0), (6, .getfield 95, 3, 6, 7), (9, .ifCond .ne 9, 3, 10, 0), (12, .aload_n 0, 1, 0, 0), (13, .iconst 1, 1, 0, 0), (14, .invokevirtual 85, 3, 29, 0), (17, .ireturn, 1, 0, 0), (18, .aload_n 0, 1, 0, 0), (19, .iconst (-1), 1, 0, 0), (20, .iconst (-1), 1, 0, 0), (21, .iconst (-1), 1, 0, 0), (22, .iconst (-1), 1, 0, 0), (23, .invokevirtual 101, 3, 31, 0), (26, .pop, 1, 0, 0), (27, .aload_n 0, 1, 0, 0), (28, .invokevirtual 144, 3, 39, 0), (31, .iconst 0, 1, 0, 0), (32, .istore_n 1, 1, 0, 0), (33, .iconst 1, 1, 0, 0), (34, .istore_n 2, 1, 0, 0), (35, .iload_n 2, 1, 0, 0), (36, .bipush 9, 2, 0, 0), (38, .if_icmp .ge 86, 3, 72, 0), (41, .iload_n 1, 1, 0, 0), (42, .ifCond .ne 82, 3, 72, 0), (45, .iload_n 2, 1, 0, 0), (46, .iconst 2, 1, 0, 0), (47, .if_icmp .eq 8, 3, 34, 0), (50, .iload_n 2, 1, 0, 0), (51, .iconst 3, 1, 0, 0), (52, .if_icmp .ne 11, 3, 38, 0), (55, .aload_n 0, 1, 0, 0), (56, .iload_n 2, 1, 0, 0), (57, .invokevirtual 182, 3, 64, 0), (60, .goto 47, 3, 63, 0), (63, .iload_n 2, 1, 0, 0), (64, .iconst 5, 1, 0, 0), (65, .if_icmp .ne 37, 3, 60, 0), (68, .aload_n 0, 1, 0, 0), (69, .iconst 0, 1, 0, 0), (70, .aload_n 0, 1, 0, 0), (71, .getfield 89, 3, 6, 1), (74, .iconst 0, 1, 0, 0), (75, .bipush 9, 2, 0, 0), (77, .invokevirtual 163, 3, 42, 0), (80, .ifCond .ne 18, 3, 58, 0), (83, .aload_n 0, 1, 0, 0), (84, .iconst 0, 1, 0, 0), (85, .iconst (-1), 1, 0, 0), (86, .iconst (-1), 1, 0, 0), (87, .iconst (-1), 1, 0, 0), (88, .invokevirtual 101, 3, 31, 0), (91, .ifCond .eq 7, 3, 58, 0), (94, .iconst 1, 1, 0, 0), (95, .goto 12, 3, 63, 0), (98, .iconst 0, 1, 0, 0), (99, .goto 8, 3, 63, 0), (102, .aload_n 0, 1, 0, 0), (103, .iload_n 2, 1, 0, 0), (104, .invokevirtual 185, 3, 61, 0), (107, .istore_n 3, 1, 0, 0), (108, .iload_n 3, 1, 0, 0), (109, .ifCond .eq 7, 3, 68, 0), (112, .iload_n 2, 1, 0, 0), (113, .goto 4, 3, 69, 0), (116, .iconst 0, 1, 0, 0), (117, .istore_n 1, 1, 0, 0), (118, .iinc 2 1, 3, 0, 0), (121, .goto (-86), 3, 23, 0), (124, .iload_n 1, 1, 0, 0), (125, .ireturn, 1, 0, 0)]
/-- ParserProofModel.fault(I)I -/
def L_66 : List ab_I := [(0, .aload_n 0, 1, 0, 0), (1, .iconst 0, 1, 0, 0), (2, .putfield 75, 3, 6, 0), (5, .iload_n 1, 1, 0, 0), (6, .ifCond .ne 10, 3, 8, 0), (9, .aload_n 0, 1, 0, 0), (10, .getfield 38, 3, 6, 13), (13, .goto 40, 3, 27, 0), (16, .iload_n 1, 1, 0, 0), (17, .iconst 1, 1, 0, 0), (18, .if_icmp .ne 10, 3, 14, 0), (21, .aload_n 0, 1, 0, 0), (22, .getfield 42, 3, 6, 14), (25, .goto 28, 3, 27, 0), (28, .iload_n 1, 1, 0, 0), (29, .iconst 2, 1, 0, 0), (30, .if_icmp .ne 10, 3, 20, 0), (33, .aload_n 0, 1, 0, 0), (34, .getfield 45, 3, 6, 15), (37, .goto 16, 3, 27, 0), (40, .iload_n 1, 1, 0, 0), (41, .iconst 3, 1, 0, 0), (42, .if_icmp .ne 10, 3, 26, 0), (45, .aload_n 0, 1, 0, 0), (46, .getfield 48, 3, 6, 16), (49, .goto 4, 3, 27, 0), (52, .iconst (-1), 1, 0, 0), (53, .ireturn, 1, 0, 0)]
/-- ParserProofModel.feed(I)I -/
def L_67 : List ab_I := [(0, .aload_n 0, 1, 0, 0), (1, .iconst 0, 1, 0, 0), (2, .putfield 75, 3, 6, 0), (5, .iload_n 1, 1, 0, 0), (6, .iconst 4, 1, 0, 0), (7, .if_icmp .lt 18, 3, 13, 0), (10, .iload_n 1, 1, 0, 0), (11, .bipush 9, 2, 0, 0), (13, .if_icmp .ge 12, 3, 13, 0), (16, .aload_n 0, 1, 0, 0), (17, .getfield 188, 3, 6, 17), (20, .bipush 20, 2, 0, 0), (22, .if_icmp .ne 5, 3, 15, 0), (25, .iconst (-1), 1, 0, 0), (26, .ireturn, 1, 0, 0), (27, .aload_n 0, 1, 0, 0), (28, .getfield 51, 3, 6, 18), (31, .aload_n 0, 1, 0, 0), (32, .getfield 188, 3, 6, 17), (35, .iload_n 1, 1, 0, 0), (36, .iastore, 1, 0, 0), (37, .aload_n 0, 1, 0, 0), (38, .dup, 1, 0, 0), (39, .getfield 188, 3, 6, 17), (42, .iconst 1, 1, 0, 0), (43, .iadd, 1, 0, 0), (44, .putfield 188, 3, 6, 17), (47, .aload_n 0, 1, 0, 0), (48, .invokevirtual 98, 3, 30, 0), (51, .aload_n 0, 1, 0, 0), (52, .getfield 188, 3, 6, 17), (55, .ireturn, 1, 0, 0)]
/-- ParserProofModel.empty()V -/
def L_68 : List ab_I := [(0, .aload_n 0, 1, 0, 0), (1, .iconst 0, 1, 0, 0), (2, .putfield 75, 3, 6, 0), (5, .aload_n 0, 1, 0, 0), (6, .iconst 0, 1, 0, 0), (7, .putfield 188, 3, 6, 17), (10, .aload_n 0, 1, 0, 0), (11, .invokevirtual 98, 3, 30, 0), (14, .return_, 1, 0, 0)]
/-- ParserProofModel.create(IIII)V -/
def L_69 : List ab_I := [(0, .aload_n 0, 1, 0, 0), (1, .getfield 60, 3, 6, 25), (4, .aload_n 0, 1, 0, 0), (5, .getfield 82, 3, 6, 22), (8, .iload_n 1, 1, 0, 0), (9, .iastore, 1, 0, 0), (10, .aload_n 0, 1, 0, 0), (11, .getfield 63, 3, 6, 26), (14, .aload_n 0, 1, 0, 0), (15, .getfield 82, 3, 6, 22), (18, .iload_n 2, 1, 0, 0), (19, .iastore, 1, 0, 0), (20, .aload_n 0, 1, 0, 0), (21, .getfield 66, 3, 6, 27), (24, .aload_n 0, 1, 0, 0), (25, .getfield 82, 3, 6, 22), (28, .iconst (-1), 1, 0, 0), (29, .iastore, 1, 0, 0), (30, .aload_n 0, 1, 0, 0), (31, .getfield 69, 3, 6, 28), (34, .aload_n 0, 1, 0, 0), (35, .getfield 82, 3, 6, 22), (38, .iload_n 3, 1, 0, 0), (39, .iastore, 1, 0, 0), (40, .aload_n 0, 1, 0, 0), (41, .getfield 72, 3, 6, 29), (44, .aload_n 0, 1, 0, 0), (45, .getfield 82, 3, 6, 22), (48, .iload 4, 2, 0, 0), (50, .iastore, 1, 0, 0), (51, .aload_n 0, 1, 0, 0), (52, .dup, 1, 0, 0), (53, .getfield 82, 3, 6, 22), (56, .iconst 1, 1, 0, 0), (57, .iadd, 1, 0, 0), (58, .putfield 82, 3, 6, 22), (61, .return_, 1, 0, 0)]
/-- ParserProofModel.push(I)V -/
def L_70 : List ab_I := [(0, .aload_n 0, 1, 0, 0), (1, .dup, 1, 0, 0), (2, .getfield 191, 3, 6, 21), (5, .iconst 1, 1, 0, 0), (6, .iadd, 1, 0, 0), (7, .putfield 191, 3, 6, 21), (10, .aload_n 0, 1, 0, 0), (11, .getfield 54, 3, 6, 23), (14, .aload_n 0, 1, 0, 0), (15, .getfield 191, 3, 6, 21), (18, .iload_n 1, 1, 0, 0), (19, .iastore, 1, 0, 0), (20, .aload_n 0, 1, 0, 0), (21, .getfield 57, 3, 6, 24), (24, .aload_n 0, 1, 0, 0), (25, .getfield 191, 3, 6, 21), (28, .aload_n 0, 1, 0, 0), (29, .getfield 82, 3, 6, 22), (32, .iconst 1, 1, 0, 0), (33, .isub, 1, 0, 0), (34, .iastore, 1, 0, 0), (35, .return_, 1, 0, 0)]
/-- ParserProofModel.shift(I)I -/
def L_71 : List ab_I := [(0, .aload_n 0, 1, 0, 0), (1, .getfield 194, 3, 6, 20), (4, .aload_n 0, 1, 0, 0), (5, .getfield 188, 3, 6, 17), (8, .if_icmp .ne 5, 3, 7, 0), (11, .iconst 3, 1, 0, 0), (12, .ireturn, 1, 0, 0), (13, .aload_n 0, 1, 0, 0), (14, .getfield 82, 3, 6, 22), (17, .bipush 60, 2, 0, 0), (19, .if_icmp .ne 5, 3, 13, 0), (22, .iconst 4, 1, 0, 0), (23, .ireturn, 1, 0, 0), (24, .aload_n 0, 1, 0, 0), (25, .aload_n 0, 1, 0, 0), (26, .getfield 51, 3, 6, 18), (29, .aload_n 0, 1, 0, 0), (30, .getfield 194, 3, 6, 20), (33, .iaload, 1, 0, 0), (34, .iconst (-1), 1, 0, 0), (35, .aload_n 0, 1, 0, 0), (36, .getfield 194, 3, 6, 20), (39, .iconst 1, 1, 0, 0), (40, .invokevirtual 197, 3, 69, 0), (43, .aload_n 0, 1, 0, 0), (44, .iload_n 1, 1, 0, 0), (45, .invokevirtual 201, 3, 70, 0), (48, .aload_n 0, 1, 0, 0), (49, .dup, 1, 0, 0), (50, .getfield 194, 3, 6, 20), (53, .iconst 1, 1, 0, 0), (54, .iadd, 1, 0, 0), (55, .putfield 194, 3, 6, 20), (58, .iconst 0, 1, 0, 0), (59, .ireturn, 1, 0, 0)]
/-- ParserProofModel.reduceBy(I)I -/
def L_72 : List ab_I := [(0, .iload_n 1, 1, 0, 0), (1, .aload_n 0, 1, 0, 0), (2, .getfield 89, 3, 6, 1), (5, .if_icmp .eq 16, 3, 11, 0), (8, .aload_n 0, 1, 0, 0), (9, .getfield 191, 3, 6, 21), (12, .aload_n 0, 1, 0, 0), (13, .getfield 13, 3, 6, 3), (16, .iload_n 1, 1, 0, 0), (17, .iaload, 1, 0, 0), (18, .if_icmp .ge 5, 3, 13, 0), (21, .iconst 3, 1, 0, 0), (22, .ireturn, 1, 0, 0), (23, .aload_n 0, 1, 0, 0), (24, .getfield 191, 3, 6, 21), (27, .aload_n 0, 1, 0, 0), (28, .getfield 13, 3, 6, 3), (31, .iload_n 1, 1, 0, 0), (32, .iaload, 1, 0, 0), (33, .isub, 1, 0, 0), (34, .istore_n 2, 1, 0, 0), (35, .iconst 0, 1, 0, 0), (36, .istore_n 3, 1, 0, 0), (37, .iconst 1, 1, 0, 0), (38, .istore 4, 2, 0, 0), (40, .iconst 0, 1, 0, 0), (41, .istore 5, 2, 0, 0), (43, .iload 5, 2, 0, 0), (45, .aload_n 0, 1, 0, 0), (46, .getfield 13, 3, 6, 3), (49, .iload_n 1, 1, 0, 0), (50, .iaload, 1, 0, 0), (51, .if_icmp .ge 65, 3, 70, 0), (54, .aload_n 0, 1, 0, 0), (55, .getfield 57, 3, 6, 24), (58, .iload_n 2, 1, 0, 0), (59, .iconst 1, 1, 0, 0), (60, .iadd, 1, 0, 0), (61, .iload 5, 2, 0, 0), (63, .iadd, 1, 0, 0), (64, .iaload, 1, 0, 0), (65, .istore 6, 2, 0, 0), (67, .iload 4, 2, 0, 0), (69, .ifCond .eq 28, 3, 59, 0), (72, .aload_n 0, 1, 0, 0), (73, .getfield 60, 3, 6, 25), (76, .iload 6, 2, 0, 0), (78, .iaload, 1, 0, 0), (79, .aload_n 0, 1, 0, 0), (80, .getfield 16, 3, 6, 4), (83, .iconst 4, 1, 0, 0), (84, .iload_n 1, 1, 0, 0), (85, .imul, 1, 0, 0), (86, .iload 5, 2, 0, 0), (88, .iadd, 1, 0, 0), (89, .iaload, 1, 0, 0), (90, .if_icmp .ne 7, 3, 59, 0), (93, .iconst 1, 1, 0, 0), (94, .goto 4, 3, 60, 0), (97, .iconst 0, 1, 0, 0), (98, .istore 4, 2, 0, 0), (100, .iload_n 3, 1, 0, 0), (101, .aload_n 0, 1, 0, 0), (102, .getfield 72, 3, 6, 29), (105, .iload 6, 2, 0, 0), (107, .iaload, 1, 0, 0), (108, .iadd, 1, 0, 0), (109, .istore_n 3, 1, 0, 0), (110, .iinc 5 1, 3, 0, 0), (113, .goto (-70), 3, 27, 0), (116, .iload 4, 2, 0, 0), (118, .ifCond .ne 5, 3, 74, 0), (121, .iconst 3, 1, 0, 0), (122, .ireturn, 1, 0, 0), (123, .aload_n 0, 1, 0, 0), (124, .getfield 82, 3, 6, 22), (127, .bipush 60, 2, 0, 0), (129, .if_icmp .ne 5, 3, 80, 0), (132, .iconst 4, 1, 0, 0), (133, .ireturn, 1, 0, 0), (134, .iload_n 2, 1, 0, 0), (135, .iconst 1, 1, 0, 0), (136, .iadd, 1, 0, 0), (137, .istore 5, 2, 0, 0), (139, .iload 5, 2, 0, 0), (141, .aload_n 0, 1, 0, 0), (142, .getfield 191, 3, 6, 21), (145, .if_icmp .gt 25, 3, 99, 0), (148, .aload_n 0, 1, 0, 0), (149, .getfield 66, 3, 6, 27), (152, .aload_n 0, 1, 0, 0), (153, .getfield 57, 3, 6, 24), (156, .iload 5, 2, 0, 0), (158, .iaload, 1, 0, 0), (159, .aload_n 0, 1, 0, 0), (160, .getfield 82, 3, 6, 22), (163, .iastore, 1, 0, 0), (164, .iinc 5 1, 3, 0, 0), (167, .goto (-28), 3, 84, 0), (170, .iload_n 2, 1, 0, 0), (171, .iconst 1, 1, 0, 0), (172, .iadd, 1, 0, 0), (173, .istore 5, 2, 0, 0), (175, .iload 5, 2, 0, 0), (177, .aload_n 0, 1, 0, 0), (178, .getfield 191, 3, 6, 21), (181, .if_icmp .gt 17, 3, 114, 0), (184, .aload_n 0, 1, 0, 0), (185, .getfield 54, 3, 6, 23), (188, .iload 5, 2, 0, 0), (190, .iconst (-1), 1, 0, 0), (191, .iastore, 1, 0, 0), (192, .iinc 5 1, 3, 0, 0), (195, .goto (-20), 3, 103, 0), (198, .aload_n 0, 1, 0, 0), (199, .getfield 194, 3, 6, 20), (202, .iload_n 3, 1, 0, 0), (203, .isub, 1, 0, 0), (204, .istore 5, 2, 0, 0), (206, .aload_n 0, 1, 0, 0), (207, .aload_n 0, 1, 0, 0), (208, .getfield 7, 3, 6, 2), (211, .iload_n 1, 1, 0, 0), (212, .iaload, 1, 0, 0), (213, .iload_n 1, 1, 0, 0), (214, .iload 5, 2, 0, 0), (216, .iload_n 3, 1, 0, 0), (217, .invokevirtual 197, 3, 69, 0), (220, .aload_n 0, 1, 0, 0), (221, .iload_n 2, 1, 0, 0), (222, .putfield 191, 3, 6, 21), (225, .aload_n 0, 1, 0, 0), (226, .aload_n 0, 1, 0, 0), (227, .getfield 54, 3, 6, 23), (230, .iload_n 2, 1, 0, 0), (231, .iaload, 1, 0, 0), (232, .aload_n 0, 1, 0, 0), (233, .getfield 7, 3, 6, 2), (236, .iload_n 1, 1, 0, 0), (237, .iaload, 1, 0, 0), (238, .invokevirtual 166, 3, 58, 0), (241, .ifCond .ne 5, 3, 144, 0), (244, .iconst 3, 1, 0, 0), (245, .ireturn, 1, 0, 0), (246, .aload_n 0, 1, 0, 0), (247, .aload_n 0, 1, 0, 0), (248, .getfield 29, 3, 6, 9), (251, .bipush 10, 2, 0, 0), (253, .aload_n 0, 1, 0, 0), (254, .getfield 54, 3, 6, 23), (257, .iload_n 2, 1, 0, 0), (258, .iaload, 1, 0, 0), (259, .imul, 1, 0, 0), (260, .aload_n 0, 1, 0, 0), (261, .getfield 7, 3, 6, 2), (264, .iload_n 1, 1, 0, 0), (265, .iaload, 1, 0, 0), (266, .iadd, 1, 0, 0), (267, .iaload, 1, 0, 0), (268, .invokevirtual 201, 3, 70, 0), (271, .iconst 0, 1, 0, 0), (272, .ireturn, 1, 0, 0)]
/-- ParserProofModel.advance()I -/
def L_73 : List ab_I := [(0, .aload_n 0, 1, 0, 0), (1, .getfield 29, 3, 6, 9), (4, .bipush 10, 2, 0, 0), (6, .aload_n 0, 1, 0, 0), (7, .getfield 54, 3, 6, 23), (10, .aload_n 0, 1, 0, 0), (11, .getfield 191, 3, 6, 21), (14, .iaload, 1, 0, 0), (15, .imul, 1, 0, 0), (16, .aload_n 0, 1, 0, 0), (17, .getfield 194, 3, 6, 20), (20, .aload_n 0, 1, 0, 0), (21, .getfield 188, 3, 6, 17), (24, .if_icmp .ge 15, 3, 20, 0), (27, .aload_n 0, 1, 0, 0), (28, .getfield 51, 3, 6, 18), (31, .aload_n 0, 1, 0, 0), (32, .getfield 194, 3, 6, 20), (35, .iaload, 1, 0, 0), (36, .goto 5, 3, 21, 0), (39, .bipush 9, 2, 0, 0), (41, .iadd, 1, 0, 0), (42, .iaload, 1, 0, 0), (43, .istore_n 1, 1, 0, 0), (44, .iload_n 1, 1, 0, 0), (45, .iconst (-1), 1, 0, 0), (46, .if_icmp .ne 5, 3, 29, 0), (49, .iconst 2, 1, 0, 0), (50, .ireturn, 1, 0, 0), (51, .iload_n 1, 1, 0, 0), (52, .bipush 100, 2, 0, 0), (54, .if_icmp .ge 9, 3, 36, 0), (57, .aload_n 0, 1, 0, 0), (58, .iload_n 1, 1, 0, 0), (59, .invokevirtual 204, 3, 71, 0), (62, .ireturn, 1, 0, 0), (63, .iload_n 1, 1, 0, 0), (64, .sipush 200, 3, 0, 0), (67, .if_icmp .ge 12, 3, 45, 0), (70, .aload_n 0, 1, 0, 0), (71, .iload_n 1, 1, 0, 0), (72, .bipush 100, 2, 0, 0), (74, .isub, 1, 0, 0), (75, .invokevirtual 207, 3, 72, 0), (78, .ireturn, 1, 0, 0), (79, .aload_n 0, 1, 0, 0), (80, .getfield 191, 3, 6, 21), (83, .iconst 1, 1, 0, 0), (84, .if_icmp .ne 27, 3, 63, 0), (87, .aload_n 0, 1, 0, 0), (88, .getfield 60, 3, 6, 25), (91, .aload_n 0, 1, 0, 0), (92, .getfield 57, 3, 6, 24), (95, .iconst 1, 1, 0, 0), (96, .iaload, 1, 0, 0), (97, .iaload, 1, 0, 0), (98, .aload_n 0, 1, 0, 0), (99, .getfield 7, 3, 6, 2), (102, .iconst 0, 1, 0, 0), (103, .iaload, 1, 0, 0), (104, .if_icmp .ne 7, 3, 63, 0), (107, .iconst 1, 1, 0, 0), (108, .goto 4, 3, 64, 0), (111, .iconst 3, 1, 0, 0), (112, .ireturn, 1, 0, 0)]
/-- ParserProofModel.parse(I)I -/
def L_74 : List ab_I := [(0, .aload_n 0, 1, 0, 0), (1, .iconst 0, 1, 0, 0), (2, .putfield 75, 3, 6, 0), (5, .aload_n 0, 1, 0, 0), (6, .getfield 95, 3, 6, 7), (9, .ifCond .ne 9, 3, 10, 0), (12, .aload_n 0, 1, 0, 0), (13, .iconst 1, 1, 0, 0), (14, .invokevirtual 85, 3, 29, 0), (17, .ireturn, 1, 0, 0), (18, .iload_n 1, 1, 0, 0), (19, .ifCond .lt 10, 3, 15, 0), (22, .iload_n 1, 1, 0, 0), (23, .sipush 400, 3, 0, 0), (26, .if_icmp .le 9, 3, 19, 0), (29, .aload_n 0, 1, 0, 0), (30, .iconst 2, 1, 0, 0), (31, .invokevirtual 85, 3, 29, 0), (34, .ireturn, 1, 0, 0), (35, .aload_n 0, 1, 0, 0), (36, .iconst 1, 1, 0, 0), (37, .putfield 78, 3, 6, 19), (40, .aload_n 0, 1, 0, 0), (41, .iconst 0, 1, 0, 0), (42, .putfield 82, 3, 6, 22), (45, .aload_n 0, 1, 0, 0), (46, .iconst 0, 1, 0, 0), (47, .putfield 194, 3, 6, 20), (50, .aload_n 0, 1, 0, 0), (51, .iconst 0, 1, 0, 0), (52, .putfield 191, 3, 6, 21), (55, .aload_n 0, 1, 0, 0), (56, .getfield 54, 3, 6, 23), (59, .iconst 0, 1, 0, 0), (60, .iconst 0, 1, 0, 0), (61, .iastore, 1, 0, 0), (62, .iconst 0, 1, 0, 0), (63, .istore_n 2, 1, 0, 0), (64, .iconst 0, 1, 0, 0), (65, .istore_n 3, 1, 0, 0), (66, .iload_n 3, 1, 0, 0), (67, .iload_n 1, 1, 0, 0), (68, .if_icmp .ge 18, 3, 50, 0), (71, .iload_n 2, 1, 0, 0), (72, .ifCond .ne 14, 3, 50, 0), (75, .aload_n 0, 1, 0, 0), (76, .invokevirtual 210, 3, 73, 0), (79, .istore_n 2, 1, 0, 0), (80, .iinc 3 1, 3, 0, 0), (83, .goto (-17), 3, 40, 0), (86, .iload_n 2, 1, 0, 0), (87, .ireturn, 1, 0, 0)]
/-- ParserProofModel.nodes()I -/
def L_75 : List ab_I := [(0, .aload_n 0, 1, 0, 0), (1, .iconst 0, 1, 0, 0), (2, .putfield 75, 3, 6, 0), (5, .aload_n 0, 1, 0, 0), (6, .getfield 82, 3, 6, 22), (9, .ireturn, 1, 0, 0)]
/-- ParserProofModel.node(II)I -/
def L_76 : List ab_I := [(0, .aload_n 0, 1, 0, 0), (1, .iconst 0, 1, 0, 0), (2, .putfield 75, 3, 6, 0), (5, .iload_n 1, 1, 0, 0), (6, .ifCond .lt 11, 3, 9, 0), (9, .iload_n 1, 1, 0, 0), (10, .aload_n 0, 1, 0, 0), (11, .getfield 82, 3, 6, 22), (14, .if_icmp .lt 9, 3, 13, 0), (17, .aload_n 0, 1, 0, 0), (18, .iconst 1, 1, 0, 0), (19, .invokevirtual 85, 3, 29, 0), (22, .ireturn, 1, 0, 0), (23, .iload_n 2, 1, 0, 0), (24, .tableswitch 71 0 4 #[36, 43, 50, 57, 64], 36, 40, 0), (60, .aload_n 0, 1, 0, 0), (61, .getfield 60, 3, 6, 25), (64, .iload_n 1, 1, 0, 0), (65, .iaload, 1, 0, 0), (66, .ireturn, 1, 0, 0), (67, .aload_n 0, 1, 0, 0), (68, .getfield 63, 3, 6, 26), (71, .iload_n 1, 1, 0, 0), (72, .iaload, 1, 0, 0), (73, .ireturn, 1, 0, 0), (74, .aload_n 0, 1, 0, 0), (75, .getfield 66, 3, 6, 27), (78, .iload_n 1, 1, 0, 0), (79, .iaload, 1, 0, 0), (80, .ireturn, 1, 0, 0), (81, .aload_n 0, 1, 0, 0), (82, .getfield 69, 3, 6, 28), (85, .iload_n 1, 1, 0, 0), (86, .iaload, 1, 0, 0), (87, .ireturn, 1, 0, 0), (88, .aload_n 0, 1, 0, 0), (89, .getfield 72, 3, 6, 29), (92, .iload_n 1, 1, 0, 0), (93, .iaload, 1, 0, 0), (94, .ireturn, 1, 0, 0), (95, .aload_n 0, 1, 0, 0), (96, .iconst 2, 1, 0, 0), (97, .invokevirtual 85, 3, 29, 0), (100, .ireturn, 1, 0, 0)]
/-- ParserProofModel.depth()I -/
def L_77 : List ab_I := [(0, .aload_n 0, 1, 0, 0), (1, .iconst 0, 1, 0, 0), (2, .putfield 75, 3, 6, 0), (5, .aload_n 0, 1, 0, 0), (6, .getfield 78, 3, 6, 19), (9, .ifCond .eq 12, 3, 11, 0), (12, .aload_n 0, 1, 0, 0), (13, .getfield 191, 3, 6, 21), (16, .iconst 1, 1, 0, 0), (17, .iadd, 1, 0, 0), (18, .goto 4, 3, 12, 0), (21, .iconst 0, 1, 0, 0), (22, .ireturn, 1, 0, 0)]
/-- ParserProof$Automaton.entryAt(II)I -/
def L_78 : List ab_I := [(0, .aload_n 0, 1, 0, 0), (1, .getfield 9, 3, 0, 1), (4, .iload_n 1, 1, 0, 0), (5, .bipush 10, 2, 0, 0), (7, .imul, 1, 0, 0), (8, .iload_n 2, 1, 0, 0), (9, .iadd, 1, 0, 0), (10, .iaload, 1, 0, 0), (11, .ireturn, 1, 0, 0)]
/-- ParserProof$Automaton.putEntry(III)V -/
def L_79 : List ab_I := [(0, .aload_n 0, 1, 0, 0), (1, .getfield 9, 3, 0, 1), (4, .iload_n 1, 1, 0, 0), (5, .bipush 10, 2, 0, 0), (7, .imul, 1, 0, 0), (8, .iload_n 2, 1, 0, 0), (9, .iadd, 1, 0, 0), (10, .iload_n 3, 1, 0, 0), (11, .iastore, 1, 0, 0), (12, .return_, 1, 0, 0)]
/-- ParserProof$Automaton.aheadsOf(III)I -/
def L_80 : List ab_I := [(0, .aload_n 0, 1, 0, 0), (1, .getfield 15, 3, 0, 2), (4, .iload_n 1, 1, 0, 0), (5, .bipush 45, 2, 0, 0), (7, .imul, 1, 0, 0), (8, .iload_n 2, 1, 0, 0), (9, .iload_n 3, 1, 0, 0), (10, .invokestatic 18, 3, 27, 0), (13, .iadd, 1, 0, 0), (14, .iaload, 1, 0, 0), (15, .ireturn, 1, 0, 0)]
/-- ParserProof$Automaton.holds(IIII)Z -/
def L_81 : List ab_I := [(0, .aload_n 0, 1, 0, 0), (1, .iload_n 1, 1, 0, 0), (2, .iload_n 2, 1, 0, 0), (3, .iload_n 3, 1, 0, 0), (4, .invokevirtual 22, 3, 80, 0), (7, .iload 4, 2, 0, 0), (9, .invokestatic 26, 3, 26, 0), (12, .iand, 1, 0, 0), (13, .ifCond .eq 7, 3, 11, 0), (16, .iconst 1, 1, 0, 0), (17, .goto 4, 3, 12, 0), (20, .iconst 0, 1, 0, 0), (21, .ireturn, 1, 0, 0)]
/-- ParserProof$Automaton.flip(IIII)V -/
def L_82 : List ab_I := [(0, .aload_n 0, 1, 0, 0), (1, .getfield 15, 3, 0, 2), (4, .iload_n 1, 1, 0, 0), (5, .bipush 45, 2, 0, 0), (7, .imul, 1, 0, 0), (8, .iload_n 2, 1, 0, 0), (9, .iload_n 3, 1, 0, 0), (10, .invokestatic 18, 3, 27, 0), (13, .iadd, 1, 0, 0), (14, .dup2, 1, 0, 0), (15, .iaload, 1, 0, 0), (16, .iload 4, 2, 0, 0), (18, .invokestatic 26, 3, 26, 0), (21, .ixor, 1, 0, 0), (22, .iastore, 1, 0, 0), (23, .return_, 1, 0, 0)]
/-- ParserProof$Automaton.isSame(I[I)Z -/
def L_83 : List ab_I := [(0, .iconst 0, 1, 0, 0), (1, .istore_n 3, 1, 0, 0), (2, .iload_n 3, 1, 0, 0), (3, .bipush 45, 2, 0, 0), (5, .if_icmp .ge 28, 3, 21, 0), (8, .aload_n 0, 1, 0, 0), (9, .getfield 15, 3, 0, 2), (12, .iload_n 1, 1, 0, 0), (13, .bipush 45, 2, 0, 0), (15, .imul, 1, 0, 0), (16, .iload_n 3, 1, 0, 0), (17, .iadd, 1, 0, 0), (18, .iaload, 1, 0, 0), (19, .aload_n 2, 1, 0, 0), (20, .iload_n 3, 1, 0, 0), (21, .iaload, 1, 0, 0), (22, .if_icmp .eq 5, 3, 19, 0), (25, .iconst 0, 1, 0, 0), (26, .ireturn, 1, 0, 0), (27, .iinc 3 1, 3, 0, 0), (30, .goto (-28), 3, 2, 0), (33, .iconst 1, 1, 0, 0), (34, .ireturn, 1, 0, 0)]
/-- ParserProof$Automaton.findOrAdd([I)I -/
def L_84 : List ab_I := [(0, .iconst 0, 1, 0, 0), (1, .istore_n 2, 1, 0, 0), (2, .iload_n 2, 1, 0, 0), (3, .aload_n 0, 1, 0, 0), (4, .getfield 30, 3, 0, 0), (7, .if_icmp .ge 20, 3, 15, 0), (10, .aload_n 0, 1, 0, 0), (11, .iload_n 2, 1, 0, 0), (12, .aload_n 1, 1, 0, 0), (13, .invokevirtual 34, 3, 83, 0), (16, .ifCond .eq 5, 3, 13, 0), (19, .iload_n 2, 1, 0, 0), (20, .ireturn, 1, 0, 0), (21, .iinc 2 1, 3, 0, 0), (24, .goto (-22), 3, 2, 0), (27, .aload_n 0, 1, 0, 0), (28, .getfield 30, 3, 0, 0), (31, .bipush 50, 2, 0, 0), (33, .if_icmp .lt 5, 3, 21, 0), (36, .iconst (-1), 1, 0, 0), (37, .ireturn, 1, 0, 0), (38, .aload_n 1, 1, 0, 0), (39, .iconst 0, 1, 0, 0), (40, .aload_n 0, 1, 0, 0), (41, .getfield 15, 3, 0, 2), (44, .aload_n 0, 1, 0, 0), (45, .getfield 30, 3, 0, 0), (48, .bipush 45, 2, 0, 0), (50, .imul, 1, 0, 0), (51, .bipush 45, 2, 0, 0), (53, .invokestatic 38, 3, 9999, 0), (56, .iconst 0, 1, 0, 0), (57, .istore_n 2, 1, 0, 0), (58, .iload_n 2, 1, 0, 0), (59, .bipush 10, 2, 0, 0), (61, .if_icmp .ge 19, 3, 44, 0), (64, .aload_n 0, 1, 0, 0), (65, .aload_n 0, 1, 0, 0), (66, .getfield 30, 3, 0, 0), (69, .iload_n 2, 1, 0, 0), (70, .iconst (-1), 1, 0, 0), (71, .invokevirtual 44, 3, 79, 0), (74, .iinc 2 1, 3, 0, 0), (77, .goto (-19), 3, 33, 0), (80, .aload_n 0, 1, 0, 0), (81, .dup, 1, 0, 0), (82, .getfield 30, 3, 0, 0), (85, .iconst 1, 1, 0, 0), (86, .iadd, 1, 0, 0), (87, .putfield 30, 3, 0, 0), (90, .aload_n 0, 1, 0, 0), (91, .getfield 30, 3, 0, 0), (94, .iconst 1, 1, 0, 0), (95, .isub, 1, 0, 0), (96, .ireturn, 1, 0, 0)]
/-- ParserProof$Builder.makeCanonical()Z -/
def L_85 : List ab_I := [(0, .aload_n 0, 1, 0, 0), (1, .getfield 15, 3, 1, 0), (4, .invokevirtual 23, 3, 114, 0), (7, .aload_n 0, 1, 0, 0), (8, .getfield 9, 3, 1, 2), (11, .iconst 0, 1, 0, 0), (12, .invokestatic 28, 3, 137, 0), (15, .aload_n 0, 1, 0, 0), (16, .getfield 9, 3, 1, 2), (19, .aload_n 0, 1, 0, 0), (20, .getfield 15, 3, 1, 0), (23, .invokevirtual 34, 3, 109, 0), (26, .iconst 0, 1, 0, 0), (27, .invokestatic 38, 3, 27, 0), (30, .bipush 9, 2, 0, 0), (32, .invokestatic 42, 3, 26, 0), (35, .iastore, 1, 0, 0), (36, .aload_n 0, 1, 0, 0), (37, .invokevirtual 46, 3, 88, 0), (40, .aload_n 0, 1, 0, 0), (41, .getfield 19, 3, 1, 1), (44, .aload_n 0, 1, 0, 0), (45, .getfield 9, 3, 1, 2), (48, .invokevirtual 49, 3, 84, 0), (51, .pop, 1, 0, 0), (52, .iconst 0, 1, 0, 0), (53, .istore_n 1, 1, 0, 0), (54, .iload_n 1, 1, 0, 0), (55, .bipush 50, 2, 0, 0), (57, .if_icmp .ge 38, 3, 47, 0), (60, .iload_n 1, 1, 0, 0), (61, .aload_n 0, 1, 0, 0), (62, .getfield 19, 3, 1, 1), (65, .getfield 55, 3, 0, 0), (68, .if_icmp .ge 27, 3, 47, 0), (71, .aload_n 0, 1, 0, 0), (72, .iload_n 1, 1, 0, 0), (73, .invokevirtual 59, 3, 86, 0), (76, .ifCond .eq 11, 3, 43, 0), (79, .aload_n 0, 1, 0, 0), (80, .iload_n 1, 1, 0, 0), (81, .invokevirtual 63, 3, 91, 0), (84, .ifCond .ne 5, 3, 45, 0), (87, .iconst 0, 1, 0, 0), (88, .ireturn, 1, 0, 0), (89, .iinc 1 1, 3, 0, 0), (92, .goto (-38), 3, 27, 0), (95, .iconst 1, 1, 0, 0), (96, .ireturn, 1, 0, 0)]
/-- ParserProof$Builder.makeGoes(I)Z -/
def L_86 : List ab_I := [(0, .iconst 0, 1, 0, 0), (1, .istore_n 2, 1, 0, 0), (2, .iload_n 2, 1, 0, 0), (3, .bipush 9, 2, 0, 0), (5, .if_icmp .ge 50, 3, 30, 0), (8, .aload_n 0, 1, 0, 0), (9, .iload_n 1, 1, 0, 0), (10, .iload_n 2, 1, 0, 0), (11, .invokevirtual 66, 3, 87, 0), (14, .ifCond .eq 35, 3, 28, 0), (17, .aload_n 0, 1, 0, 0), (18, .invokevirtual 46, 3, 88, 0), (21, .aload_n 0, 1, 0, 0), (22, .getfield 19, 3, 1, 1), (25, .aload_n 0, 1, 0, 0), (26, .getfield 9, 3, 1, 2), (29, .invokevirtual 49, 3, 84, 0), (32, .istore_n 3, 1, 0, 0), (33, .iload_n 3, 1, 0, 0), (34, .ifCond .ge 5, 3, 22, 0), (37, .iconst 0, 1, 0, 0), (38, .ireturn, 1, 0, 0), (39, .aload_n 0, 1, 0, 0), (40, .getfield 19, 3, 1, 1), (43, .iload_n 1, 1, 0, 0), (44, .iload_n 2, 1, 0, 0), (45, .iload_n 3, 1, 0, 0), (46, .invokevirtual 70, 3, 79, 0), (49, .iinc 2 1, 3, 0, 0), (52, .goto (-50), 3, 2, 0), (55, .iconst 1, 1, 0, 0), (56, .ireturn, 1, 0, 0)]
/-- ParserProof$Builder.moveOver(II)Z -/
def L_87 : List ab_I := [(0, .iconst 0, 1, 0, 0), (1, .istore_n 3, 1, 0, 0), (2, .aload_n 0, 1, 0, 0), (3, .getfield 9, 3, 1, 2), (6, .iconst 0, 1, 0, 0), (7, .invokestatic 28, 3, 137, 0), (10, .iconst 0, 1, 0, 0), (11, .istore 4, 2, 0, 0), (13, .iload 4, 2, 0, 0), (15, .aload_n 0, 1, 0, 0), (16, .getfield 15, 3, 1, 0), (19, .invokevirtual 34, 3, 109, 0), (22, .if_icmp .gt 85, 3, 53, 0), (25, .iconst 0, 1, 0, 0), (26, .istore 5, 2, 0, 0), (28, .iload 5, 2, 0, 0), (30, .aload_n 0, 1, 0, 0), (31, .getfield 15, 3, 1, 0), (34, .getfield 74, 3, 3, 2), (37, .iload 4, 2, 0, 0), (39, .iaload, 1, 0, 0), (40, .if_icmp .ge 61, 3, 51, 0), (43, .aload_n 0, 1, 0, 0), (44, .getfield 19, 3, 1, 1), (47, .iload_n 1, 1, 0, 0), (48, .iload 4, 2, 0, 0), (50, .iload 5, 2, 0, 0), (52, .invokevirtual 77, 3, 80, 0), (55, .istore 6, 2, 0, 0), (57, .iload 6, 2, 0, 0), (59, .ifCond .eq 36, 3, 49, 0), (62, .aload_n 0, 1, 0, 0), (63, .getfield 15, 3, 1, 0), (66, .iload 4, 2, 0, 0), (68, .iload 5, 2, 0, 0), (70, .invokevirtual 81, 3, 111, 0), (73, .iload_n 2, 1, 0, 0), (74, .if_icmp .ne 21, 3, 49, 0), (77, .aload_n 0, 1, 0, 0), (78, .getfield 9, 3, 1, 2), (81, .iload 4, 2, 0, 0), (83, .iload 5, 2, 0, 0), (85, .iconst 1, 1, 0, 0), (86, .iadd, 1, 0, 0), (87, .invokestatic 38, 3, 27, 0), (90, .iload 6, 2, 0, 0), (92, .iastore, 1, 0, 0), (93, .iconst 1, 1, 0, 0), (94, .istore_n 3, 1, 0, 0), (95, .iinc 5 1, 3, 0, 0), (98, .goto (-70), 3, 15, 0), (101, .iinc 4 1, 3, 0, 0), (104, .goto (-91), 3, 8, 0), (107, .iload_n 3, 1, 0, 0), (108, .ireturn, 1, 0, 0)]
/-- ParserProof$Builder.close()V -/
def L_88 : List ab_I := [(0, .iconst 1, 1, 0, 0), (1, .istore_n 1, 1, 0, 0), (2, .iconst 0, 1, 0, 0), (3, .istore_n 2, 1, 0, 0), (4, .iload_n 2, 1, 0, 0), (5, .bipush 49, 2, 0, 0), (7, .if_icmp .ge 18, 3, 14, 0), (10, .iload_n 1, 1, 0, 0), (11, .ifCond .eq 14, 3, 14, 0), (14, .aload_n 0, 1, 0, 0), (15, .invokevirtual 84, 3, 89, 0), (18, .istore_n 1, 1, 0, 0), (19, .iinc 2 1, 3, 0, 0), (22, .goto (-18), 3, 4, 0), (25, .return_, 1, 0, 0)]
/-- ParserProof$Builder.closeOnce()Z -/
def L_89 : List ab_I := [(0, .iconst 0, 1, 0, 0), (1, .istore_n 1, 1, 0, 0), (2, .iconst 0, 1, 0, 0), (3, .istore_n 2, 1, 0, 0), (4, .iload_n 2, 1, 0, 0), (5, .aload_n 0, 1, 0, 0), (6, .getfield 15, 3, 1, 0), (9, .invokevirtual 34, 3, 109, 0), (12, .if_icmp .gt 88, 3, 54, 0), (15, .iconst 0, 1, 0, 0), (16, .istore_n 3, 1, 0, 0), (17, .iload_n 3, 1, 0, 0), (18, .aload_n 0, 1, 0, 0), (19, .getfield 15, 3, 1, 0), (22, .getfield 74, 3, 3, 2), (25, .iload_n 2, 1, 0, 0), (26, .iaload, 1, 0, 0), (27, .if_icmp .ge 67, 3, 52, 0), (30, .aload_n 0, 1, 0, 0), (31, .getfield 9, 3, 1, 2), (34, .iload_n 2, 1, 0, 0), (35, .iload_n 3, 1, 0, 0), (36, .invokestatic 38, 3, 27, 0), (39, .iaload, 1, 0, 0), (40, .istore 4, 2, 0, 0), (42, .aload_n 0, 1, 0, 0), (43, .getfield 15, 3, 1, 0), (46, .iload_n 2, 1, 0, 0), (47, .iload_n 3, 1, 0, 0), (48, .invokevirtual 81, 3, 111, 0), (51, .istore 5, 2, 0, 0), (53, .iload 4, 2, 0, 0), (55, .ifCond .eq 33, 3, 50, 0), (58, .iload 5, 2, 0, 0), (60, .invokestatic 88, 3, 23, 0), (63, .ifCond .eq 25, 3, 50, 0), (66, .iload_n 1, 1, 0, 0), (67, .aload_n 0, 1, 0, 0), (68, .iload 5, 2, 0, 0), (70, .aload_n 0, 1, 0, 0), (71, .getfield 15, 3, 1, 0), (74, .iload_n 2, 1, 0, 0), (75, .iload_n 3, 1, 0, 0), (76, .iconst 1, 1, 0, 0), (77, .iadd, 1, 0, 0), (78, .iload 4, 2, 0, 0), (80, .invokevirtual 91, 3, 113, 0), (83, .invokevirtual 94, 3, 90, 0), (86, .ior, 1, 0, 0), (87, .istore_n 1, 1, 0, 0), (88, .iinc 3 1, 3, 0, 0), (91, .goto (-74), 3, 11, 0), (94, .iinc 2 1, 3, 0, 0), (97, .goto (-93), 3, 4, 0), (100, .iload_n 1, 1, 0, 0), (101, .ireturn, 1, 0, 0)]
/-- ParserProof$Builder.addRulesOf(II)Z -/
def L_90 : List ab_I := [(0, .iconst 0, 1, 0, 0), (1, .istore_n 3, 1, 0, 0), (2, .iconst 0, 1, 0, 0), (3, .istore 4, 2, 0, 0), (5, .iload 4, 2, 0, 0), (7, .aload_n 0, 1, 0, 0), (8, .getfield 15, 3, 1, 0), (11, .getfield 97, 3, 3, 0), (14, .if_icmp .ge 58, 3, 41, 0), (17, .iload 4, 2, 0, 0), (19, .iconst 0, 1, 0, 0), (20, .invokestatic 38, 3, 27, 0), (23, .istore 5, 2, 0, 0), (25, .aload_n 0, 1, 0, 0), (26, .getfield 15, 3, 1, 0), (29, .getfield 98, 3, 3, 1), (32, .iload 4, 2, 0, 0), (34, .iaload, 1, 0, 0), (35, .iload_n 1, 1, 0, 0), (36, .if_icmp .ne 30, 3, 39, 0), (39, .iload_n 2, 1, 0, 0), (40, .aload_n 0, 1, 0, 0), (41, .getfield 9, 3, 1, 2), (44, .iload 5, 2, 0, 0), (46, .iaload, 1, 0, 0), (47, .iconst (-1), 1, 0, 0), (48, .ixor, 1, 0, 0), (49, .iand, 1, 0, 0), (50, .ifCond .eq 16, 3, 39, 0), (53, .aload_n 0, 1, 0, 0), (54, .getfield 9, 3, 1, 2), (57, .iload 5, 2, 0, 0), (59, .dup2, 1, 0, 0), (60, .iaload, 1, 0, 0), (61, .iload_n 2, 1, 0, 0), (62, .ior, 1, 0, 0), (63, .iastore, 1, 0, 0), (64, .iconst 1, 1, 0, 0), (65, .istore_n 3, 1, 0, 0), (66, .iinc 4 1, 3, 0, 0), (69, .goto (-64), 3, 4, 0), (72, .iload_n 3, 1, 0, 0), (73, .ireturn, 1, 0, 0)]
/-- ParserProof$Builder.makeEnds(I)Z -/
def L_91 : List ab_I := [(0, .iconst 0, 1, 0, 0), (1, .istore_n 2, 1, 0, 0), (2, .iload_n 2, 1, 0, 0), (3, .aload_n 0, 1, 0, 0), (4, .getfield 15, 3, 1, 0), (7, .invokevirtual 34, 3, 109, 0), (10, .if_icmp .gt 101, 3, 56, 0), (13, .aload_n 0, 1, 0, 0), (14, .getfield 19, 3, 1, 1), (17, .iload_n 1, 1, 0, 0), (18, .iload_n 2, 1, 0, 0), (19, .aload_n 0, 1, 0, 0), (20, .getfield 15, 3, 1, 0), (23, .getfield 74, 3, 3, 2), (26, .iload_n 2, 1, 0, 0), (27, .iaload, 1, 0, 0), (28, .invokevirtual 77, 3, 80, 0), (31, .istore_n 3, 1, 0, 0), (32, .iconst 4, 1, 0, 0), (33, .istore 4, 2, 0, 0), (35, .iload 4, 2, 0, 0), (37, .bipush 9, 2, 0, 0), (39, .if_icmp .gt 66, 3, 54, 0), (42, .iload_n 3, 1, 0, 0), (43, .iload 4, 2, 0, 0), (45, .invokestatic 42, 3, 26, 0), (48, .iand, 1, 0, 0), (49, .ifCond .eq 50, 3, 52, 0), (52, .aload_n 0, 1, 0, 0), (53, .getfield 19, 3, 1, 1), (56, .iload_n 1, 1, 0, 0), (57, .iload 4, 2, 0, 0), (59, .invokevirtual 101, 3, 78, 0), (62, .iconst (-1), 1, 0, 0), (63, .if_icmp .eq 5, 3, 37, 0), (66, .iconst 0, 1, 0, 0), (67, .ireturn, 1, 0, 0), (68, .aload_n 0, 1, 0, 0), (69, .getfield 19, 3, 1, 1), (72, .iload_n 1, 1, 0, 0), (73, .iload 4, 2, 0, 0), (75, .aload_n 0, 1, 0, 0), (76, .getfield 15, 3, 1, 0), (79, .invokevirtual 34, 3, 109, 0), (82, .iload_n 2, 1, 0, 0), (83, .if_icmp .ne 9, 3, 48, 0), (86, .sipush 200, 3, 0, 0), (89, .goto 7, 3, 51, 0), (92, .bipush 100, 2, 0, 0), (94, .iload_n 2, 1, 0, 0), (95, .iadd, 1, 0, 0), (96, .invokevirtual 70, 3, 79, 0), (99, .iinc 4 1, 3, 0, 0), (102, .goto (-67), 3, 20, 0), (105, .iinc 2 1, 3, 0, 0), (108, .goto (-106), 3, 2, 0), (111, .iconst 1, 1, 0, 0), (112, .ireturn, 1, 0, 0)]
/-- ParserProof$Checker.forget()V -/
def L_92 : List ab_I := [(0, .aload_n 0, 1, 0, 0), (1, .iconst (-1), 1, 0, 0), (2, .iconst (-1), 1, 0, 0), (3, .iconst (-1), 1, 0, 0), (4, .iconst (-1), 1, 0, 0), (5, .invokevirtual 29, 3, 93, 0), (8, .return_, 1, 0, 0)]
/-- ParserProof$Checker.keep(IIII)V -/
def L_93 : List ab_I := [(0, .aload_n 0, 1, 0, 0), (1, .getfield 11, 3, 2, 2), (4, .iconst 0, 1, 0, 0), (5, .iload_n 1, 1, 0, 0), (6, .iastore, 1, 0, 0), (7, .aload_n 0, 1, 0, 0), (8, .getfield 11, 3, 2, 2), (11, .iconst 1, 1, 0, 0), (12, .iload_n 2, 1, 0, 0), (13, .iastore, 1, 0, 0), (14, .aload_n 0, 1, 0, 0), (15, .getfield 11, 3, 2, 2), (18, .iconst 2, 1, 0, 0), (19, .iload_n 3, 1, 0, 0), (20, .iastore, 1, 0, 0), (21, .aload_n 0, 1, 0, 0), (22, .getfield 11, 3, 2, 2), (25, .iconst 3, 1, 0, 0), (26, .iload 4, 2, 0, 0), (28, .iastore, 1, 0, 0), (29, .return_, 1, 0, 0)]
/-- ParserProof$Checker.whereabouts(I)I -/
def L_94 : List ab_I := [(0, .iload_n 1, 1, 0, 0), (1, .ifCond .lt 8, 3, 5, 0), (4, .iload_n 1, 1, 0, 0), (5, .iconst 4, 1, 0, 0), (6, .if_icmp .lt 7, 3, 7, 0), (9, .iconst (-1), 1, 0, 0), (10, .goto 9, 3, 11, 0), (13, .aload_n 0, 1, 0, 0), (14, .getfield 11, 3, 2, 2), (17, .iload_n 1, 1, 0, 0), (18, .iaload, 1, 0, 0), (19, .ireturn, 1, 0, 0)]
/-- ParserProof$Checker.look()I -/
def L_95 : List ab_I := [(0, .aload_n 0, 1, 0, 0), (1, .invokevirtual 33, 3, 92, 0), (4, .aload_n 0, 1, 0, 0), (5, .iconst 1, 1, 0, 0), (6, .invokevirtual 36, 3, 97, 0), (9, .ifCond .eq 5, 3, 8, 0), (12, .iconst 1, 1, 0, 0), (13, .ireturn, 1, 0, 0), (14, .aload_n 0, 1, 0, 0), (15, .iconst 2, 1, 0, 0), (16, .invokevirtual 40, 3, 96, 0), (19, .ifCond .eq 5, 3, 14, 0), (22, .iconst 2, 1, 0, 0), (23, .ireturn, 1, 0, 0), (24, .aload_n 0, 1, 0, 0), (25, .iconst 3, 1, 0, 0), (26, .invokevirtual 40, 3, 96, 0), (29, .ifCond .eq 5, 3, 20, 0), (32, .iconst 3, 1, 0, 0), (33, .ireturn, 1, 0, 0), (34, .aload_n 0, 1, 0, 0), (35, .iconst 4, 1, 0, 0), (36, .invokevirtual 36, 3, 97, 0), (39, .ifCond .eq 5, 3, 26, 0), (42, .iconst 4, 1, 0, 0), (43, .ireturn, 1, 0, 0), (44, .aload_n 0, 1, 0, 0), (45, .getfield 19, 3, 2, 1), (48, .iconst 0, 1, 0, 0), (49, .aload_n 0, 1, 0, 0), (50, .getfield 15, 3, 2, 0), (53, .invokevirtual 43, 3, 109, 0), (56, .iconst 0, 1, 0, 0), (57, .bipush 9, 2, 0, 0), (59, .invokevirtual 49, 3, 81, 0), (62, .ifCond .ne 13, 3, 44, 0), (65, .aload_n 0, 1, 0, 0), (66, .iconst 0, 1, 0, 0), (67, .iconst (-1), 1, 0, 0), (68, .iconst (-1), 1, 0, 0), (69, .iconst (-1), 1, 0, 0), (70, .invokevirtual 29, 3, 93, 0), (73, .iconst 5, 1, 0, 0), (74, .ireturn, 1, 0, 0), (75, .bipush 6, 2, 0, 0), (77, .istore_n 1, 1, 0, 0), (78, .iload_n 1, 1, 0, 0), (79, .bipush 8, 2, 0, 0), (81, .if_icmp .gt 19, 3, 57, 0), (84, .aload_n 0, 1, 0, 0), (85, .iload_n 1, 1, 0, 0), (86, .invokevirtual 36, 3, 97, 0), (89, .ifCond .eq 5, 3, 55, 0), (92, .iload_n 1, 1, 0, 0), (93, .ireturn, 1, 0, 0), (94, .iinc 1 1, 3, 0, 0), (97, .goto (-19), 3, 46, 0), (100, .iconst 0, 1, 0, 0), (101, .ireturn, 1, 0, 0)]
/-- ParserProof$Checker.findsSymbol(I)Z -/
def L_96 : List ab_I := [(0, .iconst 0, 1, 0, 0), (1, .istore_n 2, 1, 0, 0), (2, .iload_n 2, 1, 0, 0), (3, .aload_n 0, 1, 0, 0), (4, .getfield 19, 3, 2, 1), (7, .getfield 55, 3, 0, 0), (10, .if_icmp .ge 59, 3, 38, 0), (13, .iconst 0, 1, 0, 0), (14, .istore_n 3, 1, 0, 0), (15, .iload_n 3, 1, 0, 0), (16, .bipush 10, 2, 0, 0), (18, .if_icmp .ge 45, 3, 36, 0), (21, .iload_n 1, 1, 0, 0), (22, .iconst 2, 1, 0, 0), (23, .if_icmp .ne 15, 3, 21, 0), (26, .aload_n 0, 1, 0, 0), (27, .iload_n 2, 1, 0, 0), (28, .iload_n 3, 1, 0, 0), (29, .invokevirtual 59, 3, 99, 0), (32, .ifCond .eq 25, 3, 34, 0), (35, .goto 12, 3, 26, 0), (38, .aload_n 0, 1, 0, 0), (39, .iload_n 2, 1, 0, 0), (40, .iload_n 3, 1, 0, 0), (41, .invokevirtual 63, 3, 100, 0), (44, .ifCond .eq 13, 3, 34, 0), (47, .aload_n 0, 1, 0, 0), (48, .iload_n 2, 1, 0, 0), (49, .iload_n 3, 1, 0, 0), (50, .iconst (-1), 1, 0, 0), (51, .iconst (-1), 1, 0, 0), (52, .invokevirtual 29, 3, 93, 0), (55, .iconst 1, 1, 0, 0), (56, .ireturn, 1, 0, 0), (57, .iinc 3 1, 3, 0, 0), (60, .goto (-45), 3, 9, 0), (63, .iinc 2 1, 3, 0, 0), (66, .goto (-64), 3, 2, 0), (69, .iconst 0, 1, 0, 0), (70, .ireturn, 1, 0, 0)]
/-- ParserProof$Checker.findsItem(I)Z -/
def L_97 : List ab_I := [(0, .iconst 0, 1, 0, 0), (1, .istore_n 2, 1, 0, 0), (2, .iload_n 2, 1, 0, 0), (3, .aload_n 0, 1, 0, 0), (4, .getfield 19, 3, 2, 1), (7, .getfield 55, 3, 0, 0), (10, .if_icmp .ge 122, 3, 66, 0), (13, .iconst 0, 1, 0, 0), (14, .istore_n 3, 1, 0, 0), (15, .iload_n 3, 1, 0, 0), (16, .aload_n 0, 1, 0, 0), (17, .getfield 15, 3, 2, 0), (20, .invokevirtual 43, 3, 109, 0), (23, .if_icmp .gt 103, 3, 64, 0), (26, .iconst 0, 1, 0, 0), (27, .istore 4, 2, 0, 0), (29, .iload 4, 2, 0, 0), (31, .aload_n 0, 1, 0, 0), (32, .getfield 15, 3, 2, 0), (35, .getfield 66, 3, 3, 2), (38, .iload_n 3, 1, 0, 0), (39, .iaload, 1, 0, 0), (40, .if_icmp .gt 80, 3, 62, 0), (43, .aload_n 0, 1, 0, 0), (44, .getfield 19, 3, 2, 1), (47, .iload_n 2, 1, 0, 0), (48, .iload_n 3, 1, 0, 0), (49, .iload 4, 2, 0, 0), (51, .invokevirtual 69, 3, 80, 0), (54, .istore 5, 2, 0, 0), (56, .iconst 4, 1, 0, 0), (57, .istore 6, 2, 0, 0), (59, .iload 6, 2, 0, 0), (61, .bipush 9, 2, 0, 0), (63, .if_icmp .gt 51, 3, 60, 0), (66, .iload 5, 2, 0, 0), (68, .ifCond .eq 46, 3, 60, 0), (71, .iload 5, 2, 0, 0), (73, .iload 6, 2, 0, 0), (75, .invokestatic 73, 3, 26, 0), (78, .iand, 1, 0, 0), (79, .ifCond .eq 29, 3, 58, 0), (82, .aload_n 0, 1, 0, 0), (83, .iload_n 1, 1, 0, 0), (84, .iload_n 2, 1, 0, 0), (85, .iload_n 3, 1, 0, 0), (86, .iload 4, 2, 0, 0), (88, .iload 6, 2, 0, 0), (90, .invokevirtual 77, 3, 98, 0), (93, .ifCond .eq 15, 3, 58, 0), (96, .aload_n 0, 1, 0, 0), (97, .iload_n 2, 1, 0, 0), (98, .iload_n 3, 1, 0, 0), (99, .iload 4, 2, 0, 0), (101, .iload 6, 2, 0, 0), (103, .invokevirtual 29, 3, 93, 0), (106, .iconst 1, 1, 0, 0), (107, .ireturn, 1, 0, 0), (108, .iinc 6 1, 3, 0, 0), (111, .goto (-52), 3, 32, 0), (114, .iinc 4 1, 3, 0, 0), (117, .goto (-88), 3, 16, 0), (120, .iinc 3 1, 3, 0, 0), (123, .goto (-108), 3, 9, 0), (126, .iinc 2 1, 3, 0, 0), (129, .goto (-127), 3, 2, 0), (132, .iconst 0, 1, 0, 0), (133, .ireturn, 1, 0, 0)]
/-- ParserProof$Checker.isWrong(IIIII)Z -/
def L_98 : List ab_I := [(0, .iload 4, 2, 0, 0), (2, .aload_n 0, 1, 0, 0), (3, .getfield 15, 3, 2, 0), (6, .getfield 66, 3, 3, 2), (9, .iload_n 3, 1, 0, 0), (10, .iaload, 1, 0, 0), (11, .if_icmp .ne 7, 3, 9, 0), (14, .iconst 1, 1, 0, 0), (15, .goto 4, 3, 10, 0), (18, .iconst 0, 1, 0, 0), (19, .istore 6, 2, 0, 0), (21, .iload_n 1, 1, 0, 0), (22, .tableswitch 174 1 7 #[42, 174, 174, 81, 174, 126, 150], 42, 80, 0), (64, .iload_n 2, 1, 0, 0), (65, .ifCond .ne 16, 3, 21, 0), (68, .iload 4, 2, 0, 0), (70, .ifCond .le 7, 3, 19, 0), (73, .iconst 1, 1, 0, 0), (74, .goto 28, 3, 31, 0), (77, .iconst 0, 1, 0, 0), (78, .goto 24, 3, 31, 0), (81, .iload_n 3, 1, 0, 0), (82, .aload_n 0, 1, 0, 0), (83, .getfield 15, 3, 2, 0), (86, .invokevirtual 43, 3, 109, 0), (89, .if_icmp .ne 12, 3, 30, 0), (92, .iload 4, 2, 0, 0), (94, .ifCond .ne 7, 3, 30, 0), (97, .iconst 1, 1, 0, 0), (98, .goto 4, 3, 31, 0), (101, .iconst 0, 1, 0, 0), (102, .ireturn, 1, 0, 0), (103, .iload_n 3, 1, 0, 0), (104, .aload_n 0, 1, 0, 0), (105, .getfield 15, 3, 2, 0), (108, .invokevirtual 43, 3, 109, 0), (111, .if_icmp .eq 35, 3, 52, 0), (114, .iload 4, 2, 0, 0), (116, .ifCond .ne 30, 3, 52, 0), (119, .aload_n 0, 1, 0, 0), (120, .getfield 19, 3, 2, 1), (123, .iload_n 2, 1, 0, 0), (124, .aload_n 0, 1, 0, 0), (125, .getfield 15, 3, 2, 0), (128, .getfield 81, 3, 3, 1), (131, .iload_n 3, 1, 0, 0), (132, .iaload, 1, 0, 0), (133, .invokevirtual 84, 3, 78, 0), (136, .invokestatic 88, 3, 25, 0), (139, .ifCond .ne 7, 3, 52, 0), (142, .iconst 1, 1, 0, 0), (143, .goto 4, 3, 53, 0), (146, .iconst 0, 1, 0, 0), (147, .ireturn, 1, 0, 0), (148, .iload 6, 2, 0, 0), (150, .ifCond .ne 20, 3, 65, 0), (153, .aload_n 0, 1, 0, 0), (154, .iload_n 2, 1, 0, 0), (155, .iload_n 3, 1, 0, 0), (156, .iload 4, 2, 0, 0), (158, .iload 5, 2, 0, 0), (160, .invokevirtual 91, 3, 101, 0), (163, .ifCond .eq 7, 3, 65, 0), (166, .iconst 1, 1, 0, 0), (167, .goto 4, 3, 66, 0), (170, .iconst 0, 1, 0, 0), (171, .ireturn, 1, 0, 0), (172, .iload 6, 2, 0, 0), (174, .ifCond .ne 20, 3, 78, 0), (177, .aload_n 0, 1, 0, 0), (178, .iload_n 2, 1, 0, 0), (179, .iload_n 3, 1, 0, 0), (180, .iload 4, 2, 0, 0), (182, .iload 5, 2, 0, 0), (184, .invokevirtual 94, 3, 102, 0), (187, .ifCond .eq 7, 3, 78, 0), (190, .iconst 1, 1, 0, 0), (191, .goto 4, 3, 79, 0), (194, .iconst 0, 1, 0, 0), (195, .ireturn, 1, 0, 0), (196, .iload 6, 2, 0, 0), (198, .ifCond .eq 18, 3, 90, 0), (201, .aload_n 0, 1, 0, 0), (202, .iload_n 2, 1, 0, 0), (203, .iload_n 3, 1, 0, 0), (204, .iload 5, 2, 0, 0), (206, .invokevirtual 97, 3, 103, 0), (209, .ifCond .eq 7, 3, 90, 0), (212, .iconst 1, 1, 0, 0), (213, .goto 4, 3, 91, 0), (216, .iconst 0, 1, 0, 0), (217, .ireturn, 1, 0, 0)]
/-- ParserProof$Checker.isForeign(II)Z -/
def L_99 : List ab_I := [(0, .aload_n 0, 1, 0, 0), (1, .getfield 19, 3, 2, 1), (4, .iload_n 1, 1, 0, 0), (5, .iload_n 2, 1, 0, 0), (6, .invokevirtual 84, 3, 78, 0), (9, .istore_n 3, 1, 0, 0), (10, .iload_n 3, 1, 0, 0), (11, .invokestatic 88, 3, 25, 0), (14, .ifCond .ne 5, 3, 11, 0), (17, .iconst 0, 1, 0, 0), (18, .ireturn, 1, 0, 0), (19, .iconst 0, 1, 0, 0), (20, .istore 4, 2, 0, 0), (22, .iload 4, 2, 0, 0), (24, .aload_n 0, 1, 0, 0), (25, .getfield 15, 3, 2, 0), (28, .invokevirtual 43, 3, 109, 0), (31, .if_icmp .gt 96, 3, 66, 0), (34, .iconst 1, 1, 0, 0), (35, .istore 5, 2, 0, 0), (37, .iload 5, 2, 0, 0), (39, .aload_n 0, 1, 0, 0), (40, .getfield 15, 3, 2, 0), (43, .getfield 66, 3, 3, 2), (46, .iload 4, 2, 0, 0), (48, .iaload, 1, 0, 0), (49, .if_icmp .gt 72, 3, 64, 0), (52, .aload_n 0, 1, 0, 0), (53, .getfield 19, 3, 2, 1), (56, .iload_n 3, 1, 0, 0), (57, .iload 4, 2, 0, 0), (59, .iload 5, 2, 0, 0), (61, .invokevirtual 69, 3, 80, 0), (64, .istore 6, 2, 0, 0), (66, .aload_n 0, 1, 0, 0), (67, .getfield 15, 3, 2, 0), (70, .iload 4, 2, 0, 0), (72, .iload 5, 2, 0, 0), (74, .iconst 1, 1, 0, 0), (75, .isub, 1, 0, 0), (76, .invokevirtual 101, 3, 111, 0), (79, .iload_n 2, 1, 0, 0), (80, .if_icmp .ne 20, 3, 52, 0), (83, .aload_n 0, 1, 0, 0), (84, .getfield 19, 3, 2, 1), (87, .iload_n 1, 1, 0, 0), (88, .iload 4, 2, 0, 0), (90, .iload 5, 2, 0, 0), (92, .iconst 1, 1, 0, 0), (93, .isub, 1, 0, 0), (94, .invokevirtual 69, 3, 80, 0), (97, .goto 4, 3, 53, 0), (100, .iconst 0, 1, 0, 0), (101, .istore 7, 2, 0, 0), (103, .iload 6, 2, 0, 0), (105, .iload 7, 2, 0, 0), (107, .iconst (-1), 1, 0, 0), (108, .ixor, 1, 0, 0), (109, .iand, 1, 0, 0), (110, .ifCond .eq 5, 3, 62, 0), (113, .iconst 1, 1, 0, 0), (114, .ireturn, 1, 0, 0), (115, .iinc 5 1, 3, 0, 0), (118, .goto (-81), 3, 20, 0), (121, .iinc 4 1, 3, 0, 0), (124, .goto (-102), 3, 13, 0), (127, .iconst 0, 1, 0, 0), (128, .ireturn, 1, 0, 0)]
/-- ParserProof$Checker.isBold(II)Z -/
def L_100 : List ab_I := [(0, .aload_n 0, 1, 0, 0), (1, .getfield 19, 3, 2, 1), (4, .iload_n 1, 1, 0, 0), (5, .iload_n 2, 1, 0, 0), (6, .invokevirtual 84, 3, 78, 0), (9, .istore_n 3, 1, 0, 0), (10, .iload_n 3, 1, 0, 0), (11, .iconst (-1), 1, 0, 0), (12, .if_icmp .ne 5, 3, 11, 0), (15, .iconst 0, 1, 0, 0), (16, .ireturn, 1, 0, 0), (17, .iload_n 3, 1, 0, 0), (18, .invokestatic 88, 3, 25, 0), (21, .ifCond .eq 19, 3, 23, 0), (24, .iload_n 3, 1, 0, 0), (25, .ifCond .eq 9, 3, 19, 0), (28, .iload_n 2, 1, 0, 0), (29, .bipush 9, 2, 0, 0), (31, .if_icmp .ne 7, 3, 21, 0), (34, .iconst 1, 1, 0, 0), (35, .goto 4, 3, 22, 0), (38, .iconst 0, 1, 0, 0), (39, .ireturn, 1, 0, 0), (40, .iload_n 2, 1, 0, 0), (41, .invokestatic 104, 3, 23, 0), (44, .ifCond .eq 5, 3, 28, 0), (47, .iconst 1, 1, 0, 0), (48, .ireturn, 1, 0, 0), (49, .iload_n 3, 1, 0, 0), (50, .sipush 200, 3, 0, 0), (53, .if_icmp .ne 36, 3, 48, 0), (56, .iload_n 2, 1, 0, 0), (57, .bipush 9, 2, 0, 0), (59, .if_icmp .ne 24, 3, 44, 0), (62, .aload_n 0, 1, 0, 0), (63, .getfield 19, 3, 2, 1), (66, .iload_n 1, 1, 0, 0), (67, .aload_n 0, 1, 0, 0), (68, .getfield 15, 3, 2, 0), (71, .invokevirtual 43, 3, 109, 0), (74, .iconst 1, 1, 0, 0), (75, .bipush 9, 2, 0, 0), (77, .invokevirtual 49, 3, 81, 0), (80, .ifCond .ne 7, 3, 46, 0), (83, .iconst 1, 1, 0, 0), (84, .goto 4, 3, 47, 0), (87, .iconst 0, 1, 0, 0), (88, .ireturn, 1, 0, 0), (89, .iload_n 3, 1, 0, 0), (90, .bipush 100, 2, 0, 0), (92, .isub, 1, 0, 0), (93, .istore 4, 2, 0, 0), (95, .aload_n 0, 1, 0, 0), (96, .getfield 19, 3, 2, 1), (99, .iload_n 1, 1, 0, 0), (100, .iload 4, 2, 0, 0), (102, .aload_n 0, 1, 0, 0), (103, .getfield 15, 3, 2, 0), (106, .getfield 66, 3, 3, 2), (109, .iload 4, 2, 0, 0), (111, .iaload, 1, 0, 0), (112, .iload_n 2, 1, 0, 0), (113, .invokevirtual 49, 3, 81, 0), (116, .ifCond .ne 7, 3, 66, 0), (119, .iconst 1, 1, 0, 0), (120, .goto 4, 3, 67, 0), (123, .iconst 0, 1, 0, 0), (124, .ireturn, 1, 0, 0)]
/-- ParserProof$Checker.isOpen(IIII)Z -/
def L_101 : List ab_I := [(0, .aload_n 0, 1, 0, 0), (1, .getfield 15, 3, 2, 0), (4, .iload_n 2, 1, 0, 0), (5, .iload_n 3, 1, 0, 0), (6, .invokevirtual 101, 3, 111, 0), (9, .istore 5, 2, 0, 0), (11, .iload 5, 2, 0, 0), (13, .invokestatic 104, 3, 23, 0), (16, .ifCond .ne 5, 3, 11, 0), (19, .iconst 0, 1, 0, 0), (20, .ireturn, 1, 0, 0), (21, .aload_n 0, 1, 0, 0), (22, .getfield 15, 3, 2, 0), (25, .iload_n 2, 1, 0, 0), (26, .iload_n 3, 1, 0, 0), (27, .iconst 1, 1, 0, 0), (28, .iadd, 1, 0, 0), (29, .iload 4, 2, 0, 0), (31, .invokestatic 73, 3, 26, 0), (34, .invokevirtual 107, 3, 113, 0), (37, .istore 6, 2, 0, 0), (39, .iconst 0, 1, 0, 0), (40, .istore 7, 2, 0, 0), (42, .iload 7, 2, 0, 0), (44, .aload_n 0, 1, 0, 0), (45, .getfield 15, 3, 2, 0), (48, .getfield 110, 3, 3, 0), (51, .if_icmp .ge 45, 3, 50, 0), (54, .aload_n 0, 1, 0, 0), (55, .getfield 15, 3, 2, 0), (58, .getfield 81, 3, 3, 1), (61, .iload 7, 2, 0, 0), (63, .iaload, 1, 0, 0), (64, .iload 5, 2, 0, 0), (66, .if_icmp .ne 24, 3, 48, 0), (69, .iload 6, 2, 0, 0), (71, .aload_n 0, 1, 0, 0), (72, .getfield 19, 3, 2, 1), (75, .iload_n 1, 1, 0, 0), (76, .iload 7, 2, 0, 0), (78, .iconst 0, 1, 0, 0), (79, .invokevirtual 69, 3, 80, 0), (82, .iconst (-1), 1, 0, 0), (83, .ixor, 1, 0, 0), (84, .iand, 1, 0, 0), (85, .ifCond .eq 5, 3, 48, 0), (88, .iconst 1, 1, 0, 0), (89, .ireturn, 1, 0, 0), (90, .iinc 7 1, 3, 0, 0), (93, .goto (-51), 3, 23, 0), (96, .iconst 0, 1, 0, 0), (97, .ireturn, 1, 0, 0)]
/-- ParserProof$Checker.isLazy(IIII)Z -/
def L_102 : List ab_I := [(0, .aload_n 0, 1, 0, 0), (1, .getfield 19, 3, 2, 1), (4, .iload_n 1, 1, 0, 0), (5, .aload_n 0, 1, 0, 0), (6, .getfield 15, 3, 2, 0), (9, .iload_n 2, 1, 0, 0), (10, .iload_n 3, 1, 0, 0), (11, .invokevirtual 101, 3, 111, 0), (14, .invokevirtual 84, 3, 78, 0), (17, .istore 5, 2, 0, 0), (19, .iload 5, 2, 0, 0), (21, .invokestatic 88, 3, 25, 0), (24, .ifCond .eq 21, 3, 23, 0), (27, .aload_n 0, 1, 0, 0), (28, .getfield 19, 3, 2, 1), (31, .iload 5, 2, 0, 0), (33, .iload_n 2, 1, 0, 0), (34, .iload_n 3, 1, 0, 0), (35, .iconst 1, 1, 0, 0), (36, .iadd, 1, 0, 0), (37, .iload 4, 2, 0, 0), (39, .invokevirtual 49, 3, 81, 0), (42, .ifCond .ne 7, 3, 25, 0), (45, .iconst 1, 1, 0, 0), (46, .goto 4, 3, 26, 0), (49, .iconst 0, 1, 0, 0), (50, .ireturn, 1, 0, 0)]
/-- ParserProof$Checker.isShy(III)Z -/
def L_103 : List ab_I := [(0, .iload_n 2, 1, 0, 0), (1, .aload_n 0, 1, 0, 0), (2, .getfield 15, 3, 2, 0), (5, .invokevirtual 43, 3, 109, 0), (8, .if_icmp .ne 9, 3, 7, 0), (11, .sipush 200, 3, 0, 0), (14, .goto 7, 3, 10, 0), (17, .bipush 100, 2, 0, 0), (19, .iload_n 2, 1, 0, 0), (20, .iadd, 1, 0, 0), (21, .istore 4, 2, 0, 0), (23, .aload_n 0, 1, 0, 0), (24, .getfield 19, 3, 2, 1), (27, .iload_n 1, 1, 0, 0), (28, .iload_n 3, 1, 0, 0), (29, .invokevirtual 84, 3, 78, 0), (32, .iload 4, 2, 0, 0), (34, .if_icmp .eq 7, 3, 20, 0), (37, .iconst 1, 1, 0, 0), (38, .goto 4, 3, 21, 0), (41, .iconst 0, 1, 0, 0), (42, .ireturn, 1, 0, 0)]
/-- ParserProof$Grammar.codedLength(I)I -/
def L_104 : List ab_I := [(0, .iload_n 0, 1, 0, 0), (1, .iconst 2, 1, 0, 0), (2, .iushr, 1, 0, 0), (3, .bipush 7, 2, 0, 0), (5, .iand, 1, 0, 0), (6, .ireturn, 1, 0, 0)]
/-- ParserProof$Grammar.codedSymbol(II)I -/
def L_105 : List ab_I := [(0, .iload_n 0, 1, 0, 0), (1, .iconst 5, 1, 0, 0), (2, .iconst 4, 1, 0, 0), (3, .iload_n 1, 1, 0, 0), (4, .imul, 1, 0, 0), (5, .iadd, 1, 0, 0), (6, .iushr, 1, 0, 0), (7, .bipush 15, 2, 0, 0), (9, .iand, 1, 0, 0), (10, .ireturn, 1, 0, 0)]
/-- ParserProof$Grammar.isCodedRule(I)Z -/
def L_106 : List ab_I := [(0, .iload_n 0, 1, 0, 0), (1, .invokestatic 28, 3, 104, 0), (4, .istore_n 1, 1, 0, 0), (5, .iload_n 1, 1, 0, 0), (6, .iconst 4, 1, 0, 0), (7, .if_icmp .le 5, 3, 8, 0), (10, .iconst 0, 1, 0, 0), (11, .ireturn, 1, 0, 0), (12, .iconst 0, 1, 0, 0), (13, .istore_n 2, 1, 0, 0), (14, .iload_n 2, 1, 0, 0), (15, .iload_n 1, 1, 0, 0), (16, .if_icmp .ge 21, 3, 22, 0), (19, .iload_n 0, 1, 0, 0), (20, .iload_n 2, 1, 0, 0), (21, .invokestatic 32, 3, 105, 0), (24, .bipush 9, 2, 0, 0), (26, .if_icmp .lt 5, 3, 20, 0), (29, .iconst 0, 1, 0, 0), (30, .ireturn, 1, 0, 0), (31, .iinc 2 1, 3, 0, 0), (34, .goto (-20), 3, 10, 0), (37, .iconst 1, 1, 0, 0), (38, .ireturn, 1, 0, 0)]
/-- ParserProof$Grammar.add(I)I -/
def L_107 : List ab_I := [(0, .aload_n 0, 1, 0, 0), (1, .getfield 36, 3, 3, 0), (4, .istore_n 2, 1, 0, 0), (5, .aload_n 0, 1, 0, 0), (6, .getfield 9, 3, 3, 1), (9, .iload_n 2, 1, 0, 0), (10, .iload_n 1, 1, 0, 0), (11, .iconst 3, 1, 0, 0), (12, .iand, 1, 0, 0), (13, .iastore, 1, 0, 0), (14, .aload_n 0, 1, 0, 0), (15, .getfield 15, 3, 3, 2), (18, .iload_n 2, 1, 0, 0), (19, .iload_n 1, 1, 0, 0), (20, .invokestatic 28, 3, 104, 0), (23, .iastore, 1, 0, 0), (24, .iconst 0, 1, 0, 0), (25, .istore_n 3, 1, 0, 0), (26, .iload_n 3, 1, 0, 0), (27, .aload_n 0, 1, 0, 0), (28, .getfield 15, 3, 3, 2), (31, .iload_n 2, 1, 0, 0), (32, .iaload, 1, 0, 0), (33, .if_icmp .ge 24, 3, 37, 0), (36, .aload_n 0, 1, 0, 0), (37, .getfield 18, 3, 3, 3), (40, .iload_n 2, 1, 0, 0), (41, .iconst 4, 1, 0, 0), (42, .imul, 1, 0, 0), (43, .iload_n 3, 1, 0, 0), (44, .iadd, 1, 0, 0), (45, .iload_n 1, 1, 0, 0), (46, .iload_n 3, 1, 0, 0), (47, .invokestatic 32, 3, 105, 0), (50, .iastore, 1, 0, 0), (51, .iinc 3 1, 3, 0, 0), (54, .goto (-28), 3, 18, 0), (57, .aload_n 0, 1, 0, 0), (58, .dup, 1, 0, 0), (59, .getfield 36, 3, 3, 0), (62, .iconst 1, 1, 0, 0), (63, .iadd, 1, 0, 0), (64, .putfield 36, 3, 3, 0), (67, .aload_n 0, 1, 0, 0), (68, .getfield 15, 3, 3, 2), (71, .aload_n 0, 1, 0, 0), (72, .getfield 36, 3, 3, 0), (75, .iconst 1, 1, 0, 0), (76, .iastore, 1, 0, 0), (77, .aload_n 0, 1, 0, 0), (78, .getfield 18, 3, 3, 3), (81, .aload_n 0, 1, 0, 0), (82, .getfield 36, 3, 3, 0), (85, .iconst 4, 1, 0, 0), (86, .imul, 1, 0, 0), (87, .aload_n 0, 1, 0, 0), (88, .invokevirtual 40, 3, 110, 0), (91, .iastore, 1, 0, 0), (92, .iload_n 2, 1, 0, 0), (93, .ireturn, 1, 0, 0)]
/-- ParserProof$Grammar.removeAll()V -/
def L_108 : List ab_I := [(0, .aload_n 0, 1, 0, 0), (1, .iconst 0, 1, 0, 0), (2, .putfield 36, 3, 3, 0), (5, .return_, 1, 0, 0)]
/-- ParserProof$Grammar.top()I -/
def L_109 : List ab_I := [(0, .aload_n 0, 1, 0, 0), (1, .getfield 36, 3, 3, 0), (4, .ireturn, 1, 0, 0)]
/-- ParserProof$Grammar.start()I -/
def L_110 : List ab_I := [(0, .aload_n 0, 1, 0, 0), (1, .getfield 9, 3, 3, 1), (4, .iconst 0, 1, 0, 0), (5, .iaload, 1, 0, 0), (6, .ireturn, 1, 0, 0)]
/-- ParserProof$Grammar.symbolAt(II)I -/
def L_111 : List ab_I := [(0, .aload_n 0, 1, 0, 0), (1, .getfield 18, 3, 3, 3), (4, .iload_n 1, 1, 0, 0), (5, .iconst 4, 1, 0, 0), (6, .imul, 1, 0, 0), (7, .iload_n 2, 1, 0, 0), (8, .iadd, 1, 0, 0), (9, .iaload, 1, 0, 0), (10, .ireturn, 1, 0, 0)]
/-- ParserProof$Grammar.isNullable(I)Z -/
def L_112 : List ab_I := [(0, .iconst 0, 1, 0, 0), (1, .istore_n 2, 1, 0, 0), (2, .iload_n 2, 1, 0, 0), (3, .aload_n 0, 1, 0, 0), (4, .getfield 15, 3, 3, 2), (7, .iload_n 1, 1, 0, 0), (8, .iaload, 1, 0, 0), (9, .if_icmp .ge 34, 3, 25, 0), (12, .aload_n 0, 1, 0, 0), (13, .iload_n 1, 1, 0, 0), (14, .iload_n 2, 1, 0, 0), (15, .invokevirtual 44, 3, 111, 0), (18, .istore_n 3, 1, 0, 0), (19, .iload_n 3, 1, 0, 0), (20, .invokestatic 47, 3, 23, 0), (23, .ifCond .eq 12, 3, 21, 0), (26, .aload_n 0, 1, 0, 0), (27, .getfield 21, 3, 3, 4), (30, .iload_n 3, 1, 0, 0), (31, .baload, 1, 0, 0), (32, .ifCond .ne 5, 3, 23, 0), (35, .iconst 0, 1, 0, 0), (36, .ireturn, 1, 0, 0), (37, .iinc 2 1, 3, 0, 0), (40, .goto (-38), 3, 2, 0), (43, .iconst 1, 1, 0, 0), (44, .ireturn, 1, 0, 0)]
/-- ParserProof$Grammar.firstOf(III)I -/
def L_113 : List ab_I := [(0, .iconst 0, 1, 0, 0), (1, .istore 4, 2, 0, 0), (3, .iload_n 2, 1, 0, 0), (4, .istore 5, 2, 0, 0), (6, .iload 5, 2, 0, 0), (8, .aload_n 0, 1, 0, 0), (9, .getfield 15, 3, 3, 2), (12, .iload_n 1, 1, 0, 0), (13, .iaload, 1, 0, 0), (14, .if_icmp .ge 60, 3, 39, 0), (17, .aload_n 0, 1, 0, 0), (18, .iload_n 1, 1, 0, 0), (19, .iload 5, 2, 0, 0), (21, .invokevirtual 44, 3, 111, 0), (24, .istore 6, 2, 0, 0), (26, .iload 6, 2, 0, 0), (28, .invokestatic 47, 3, 23, 0), (31, .ifCond .ne 12, 3, 23, 0), (34, .iload 4, 2, 0, 0), (36, .iload 6, 2, 0, 0), (38, .invokestatic 51, 3, 26, 0), (41, .ior, 1, 0, 0), (42, .ireturn, 1, 0, 0), (43, .iload 4, 2, 0, 0), (45, .aload_n 0, 1, 0, 0), (46, .getfield 25, 3, 3, 5), (49, .iload 6, 2, 0, 0), (51, .iaload, 1, 0, 0), (52, .ior, 1, 0, 0), (53, .istore 4, 2, 0, 0), (55, .aload_n 0, 1, 0, 0), (56, .getfield 21, 3, 3, 4), (59, .iload 6, 2, 0, 0), (61, .baload, 1, 0, 0), (62, .ifCond .ne 6, 3, 37, 0), (65, .iload 4, 2, 0, 0), (67, .ireturn, 1, 0, 0), (68, .iinc 5 1, 3, 0, 0), (71, .goto (-65), 3, 4, 0), (74, .iload 4, 2, 0, 0), (76, .iload_n 3, 1, 0, 0), (77, .ior, 1, 0, 0), (78, .ireturn, 1, 0, 0)]
/-- ParserProof$Grammar.learn()V -/
def L_114 : List ab_I := [(0, .iconst 0, 1, 0, 0), (1, .istore_n 1, 1, 0, 0), (2, .iload_n 1, 1, 0, 0), (3, .iconst 4, 1, 0, 0), (4, .if_icmp .ge 23, 3, 17, 0), (7, .aload_n 0, 1, 0, 0), (8, .getfield 21, 3, 3, 4), (11, .iload_n 1, 1, 0, 0), (12, .iconst 0, 1, 0, 0), (13, .bastore, 1, 0, 0), (14, .aload_n 0, 1, 0, 0), (15, .getfield 25, 3, 3, 5), (18, .iload_n 1, 1, 0, 0), (19, .iconst 0, 1, 0, 0), (20, .iastore, 1, 0, 0), (21, .iinc 1 1, 3, 0, 0), (24, .goto (-22), 3, 2, 0), (27, .iconst 0, 1, 0, 0), (28, .istore_n 1, 1, 0, 0), (29, .iload_n 1, 1, 0, 0), (30, .iconst 4, 1, 0, 0), (31, .if_icmp .ge 45, 3, 44, 0), (34, .iconst 0, 1, 0, 0), (35, .istore_n 2, 1, 0, 0), (36, .iload_n 2, 1, 0, 0), (37, .aload_n 0, 1, 0, 0), (38, .getfield 36, 3, 3, 0), (41, .if_icmp .ge 29, 3, 42, 0), (44, .aload_n 0, 1, 0, 0), (45, .iload_n 2, 1, 0, 0), (46, .invokevirtual 54, 3, 112, 0), (49, .ifCond .eq 15, 3, 40, 0), (52, .aload_n 0, 1, 0, 0), (53, .getfield 21, 3, 3, 4), (56, .aload_n 0, 1, 0, 0), (57, .getfield 9, 3, 3, 1), (60, .iload_n 2, 1, 0, 0), (61, .iaload, 1, 0, 0), (62, .iconst 1, 1, 0, 0), (63, .bastore, 1, 0, 0), (64, .iinc 2 1, 3, 0, 0), (67, .goto (-31), 3, 24, 0), (70, .iinc 1 1, 3, 0, 0), (73, .goto (-44), 3, 19, 0), (76, .iconst 0, 1, 0, 0), (77, .istore_n 1, 1, 0, 0), (78, .iload_n 1, 1, 0, 0), (79, .iconst 4, 1, 0, 0), (80, .if_icmp .ge 46, 3, 74, 0), (83, .iconst 0, 1, 0, 0), (84, .istore_n 2, 1, 0, 0), (85, .iload_n 2, 1, 0, 0), (86, .aload_n 0, 1, 0, 0), (87, .getfield 36, 3, 3, 0), (90, .if_icmp .ge 30, 3, 72, 0), (93, .aload_n 0, 1, 0, 0), (94, .getfield 25, 3, 3, 5), (97, .aload_n 0, 1, 0, 0), (98, .getfield 9, 3, 3, 1), (101, .iload_n 2, 1, 0, 0), (102, .iaload, 1, 0, 0), (103, .dup2, 1, 0, 0), (104, .iaload, 1, 0, 0), (105, .aload_n 0, 1, 0, 0), (106, .iload_n 2, 1, 0, 0), (107, .iconst 0, 1, 0, 0), (108, .iconst 0, 1, 0, 0), (109, .invokevirtual 57, 3, 113, 0), (112, .ior, 1, 0, 0), (113, .iastore, 1, 0, 0), (114, .iinc 2 1, 3, 0, 0), (117, .goto (-32), 3, 51, 0), (120, .iinc 1 1, 3, 0, 0), (123, .goto (-45), 3, 46, 0), (126, .return_, 1, 0, 0)]
/-- ParserProof$Parser.append(I)I -/
def L_115 : List ab_I := [(0, .aload_n 0, 1, 0, 0), (1, .getfield 9, 3, 4, 2), (4, .aload_n 0, 1, 0, 0), (5, .getfield 32, 3, 4, 3), (8, .iload_n 1, 1, 0, 0), (9, .iastore, 1, 0, 0), (10, .aload_n 0, 1, 0, 0), (11, .dup, 1, 0, 0), (12, .getfield 32, 3, 4, 3), (15, .iconst 1, 1, 0, 0), (16, .iadd, 1, 0, 0), (17, .putfield 32, 3, 4, 3), (20, .aload_n 0, 1, 0, 0), (21, .getfield 32, 3, 4, 3), (24, .ireturn, 1, 0, 0)]
/-- ParserProof$Parser.forget()V -/
def L_116 : List ab_I := [(0, .aload_n 0, 1, 0, 0), (1, .iconst 0, 1, 0, 0), (2, .putfield 36, 3, 4, 7), (5, .aload_n 0, 1, 0, 0), (6, .iconst 0, 1, 0, 0), (7, .putfield 39, 3, 4, 9), (10, .return_, 1, 0, 0)]
/-- ParserProof$Parser.nodeField(II)I -/
def L_117 : List ab_I := [(0, .aload_n 0, 1, 0, 0), (1, .getfield 21, 3, 4, 8), (4, .iload_n 1, 1, 0, 0), (5, .iconst 5, 1, 0, 0), (6, .imul, 1, 0, 0), (7, .iload_n 2, 1, 0, 0), (8, .iadd, 1, 0, 0), (9, .iaload, 1, 0, 0), (10, .ireturn, 1, 0, 0)]
/-- ParserProof$Parser.run(I)I -/
def L_118 : List ab_I := [(0, .aload_n 0, 1, 0, 0), (1, .iconst 0, 1, 0, 0), (2, .putfield 42, 3, 4, 4), (5, .aload_n 0, 1, 0, 0), (6, .iconst 0, 1, 0, 0), (7, .putfield 39, 3, 4, 9), (10, .aload_n 0, 1, 0, 0), (11, .iconst 1, 1, 0, 0), (12, .putfield 36, 3, 4, 7), (15, .aload_n 0, 1, 0, 0), (16, .getfield 15, 3, 4, 5), (19, .iconst 0, 1, 0, 0), (20, .iconst 0, 1, 0, 0), (21, .iastore, 1, 0, 0), (22, .iconst 0, 1, 0, 0), (23, .istore_n 2, 1, 0, 0), (24, .iconst 0, 1, 0, 0), (25, .istore_n 3, 1, 0, 0), (26, .iload_n 3, 1, 0, 0), (27, .iload_n 1, 1, 0, 0), (28, .if_icmp .ge 18, 3, 28, 0), (31, .iload_n 2, 1, 0, 0), (32, .ifCond .ne 14, 3, 28, 0), (35, .aload_n 0, 1, 0, 0), (36, .invokevirtual 45, 3, 119, 0), (39, .istore_n 2, 1, 0, 0), (40, .iinc 3 1, 3, 0, 0), (43, .goto (-17), 3, 18, 0), (46, .iload_n 2, 1, 0, 0), (47, .ireturn, 1, 0, 0)]
/-- ParserProof$Parser.takeStep()I -/
def L_119 : List ab_I := [(0, .aload_n 0, 1, 0, 0), (1, .getfield 42, 3, 4, 4), (4, .aload_n 0, 1, 0, 0), (5, .getfield 32, 3, 4, 3), (8, .if_icmp .ge 15, 3, 11, 0), (11, .aload_n 0, 1, 0, 0), (12, .getfield 9, 3, 4, 2), (15, .aload_n 0, 1, 0, 0), (16, .getfield 42, 3, 4, 4), (19, .iaload, 1, 0, 0), (20, .goto 5, 3, 12, 0), (23, .bipush 9, 2, 0, 0), (25, .istore_n 1, 1, 0, 0), (26, .aload_n 0, 1, 0, 0), (27, .getfield 28, 3, 4, 1), (30, .aload_n 0, 1, 0, 0), (31, .getfield 15, 3, 4, 5), (34, .aload_n 0, 1, 0, 0), (35, .getfield 36, 3, 4, 7), (38, .iconst 1, 1, 0, 0), (39, .isub, 1, 0, 0), (40, .iaload, 1, 0, 0), (41, .iload_n 1, 1, 0, 0), (42, .invokevirtual 49, 3, 78, 0), (45, .istore_n 2, 1, 0, 0), (46, .iload_n 2, 1, 0, 0), (47, .iconst (-1), 1, 0, 0), (48, .if_icmp .ne 5, 3, 30, 0), (51, .iconst 2, 1, 0, 0), (52, .ireturn, 1, 0, 0), (53, .iload_n 2, 1, 0, 0), (54, .invokestatic 55, 3, 25, 0), (57, .ifCond .eq 10, 3, 38, 0), (60, .aload_n 0, 1, 0, 0), (61, .iload_n 1, 1, 0, 0), (62, .iload_n 2, 1, 0, 0), (63, .invokevirtual 59, 3, 120, 0), (66, .ireturn, 1, 0, 0), (67, .iload_n 2, 1, 0, 0), (68, .sipush 200, 3, 0, 0), (71, .if_icmp .ne 16, 3, 48, 0), (74, .aload_n 0, 1, 0, 0), (75, .invokevirtual 62, 3, 126, 0), (78, .ifCond .eq 7, 3, 46, 0), (81, .iconst 1, 1, 0, 0), (82, .goto 4, 3, 47, 0), (85, .iconst 3, 1, 0, 0), (86, .ireturn, 1, 0, 0), (87, .aload_n 0, 1, 0, 0), (88, .iload_n 2, 1, 0, 0), (89, .bipush 100, 2, 0, 0), (91, .isub, 1, 0, 0), (92, .invokevirtual 66, 3, 121, 0), (95, .ireturn, 1, 0, 0)]
/-- ParserProof$Parser.shift(II)I -/
def L_120 : List ab_I := [(0, .iload_n 1, 1, 0, 0), (1, .bipush 9, 2, 0, 0), (3, .if_icmp .ne 5, 3, 5, 0), (6, .iconst 3, 1, 0, 0), (7, .ireturn, 1, 0, 0), (8, .aload_n 0, 1, 0, 0), (9, .getfield 39, 3, 4, 9), (12, .bipush 60, 2, 0, 0), (14, .if_icmp .lt 5, 3, 11, 0), (17, .iconst 4, 1, 0, 0), (18, .ireturn, 1, 0, 0), (19, .aload_n 0, 1, 0, 0), (20, .aload_n 0, 1, 0, 0), (21, .iload_n 1, 1, 0, 0), (22, .iconst (-1), 1, 0, 0), (23, .aload_n 0, 1, 0, 0), (24, .getfield 42, 3, 4, 4), (27, .iconst 1, 1, 0, 0), (28, .invokevirtual 70, 3, 124, 0), (31, .iload_n 2, 1, 0, 0), (32, .invokevirtual 74, 3, 125, 0), (35, .aload_n 0, 1, 0, 0), (36, .dup, 1, 0, 0), (37, .getfield 42, 3, 4, 4), (40, .iconst 1, 1, 0, 0), (41, .iadd, 1, 0, 0), (42, .putfield 42, 3, 4, 4), (45, .iconst 0, 1, 0, 0), (46, .ireturn, 1, 0, 0)]
/-- ParserProof$Parser.reduce(I)I -/
def L_121 : List ab_I := [(0, .iload_n 1, 1, 0, 0), (1, .aload_n 0, 1, 0, 0), (2, .getfield 24, 3, 4, 0), (5, .invokevirtual 78, 3, 109, 0), (8, .if_icmp .eq 11, 3, 9, 0), (11, .aload_n 0, 1, 0, 0), (12, .iload_n 1, 1, 0, 0), (13, .invokevirtual 83, 3, 122, 0), (16, .ifCond .ne 5, 3, 11, 0), (19, .iconst 3, 1, 0, 0), (20, .ireturn, 1, 0, 0), (21, .aload_n 0, 1, 0, 0), (22, .getfield 39, 3, 4, 9), (25, .bipush 60, 2, 0, 0), (27, .if_icmp .lt 5, 3, 17, 0), (30, .iconst 4, 1, 0, 0), (31, .ireturn, 1, 0, 0), (32, .aload_n 0, 1, 0, 0), (33, .getfield 24, 3, 4, 0), (36, .getfield 86, 3, 3, 1), (39, .iload_n 1, 1, 0, 0), (40, .iaload, 1, 0, 0), (41, .istore_n 2, 1, 0, 0), (42, .aload_n 0, 1, 0, 0), (43, .iload_n 2, 1, 0, 0), (44, .iload_n 1, 1, 0, 0), (45, .invokevirtual 89, 3, 123, 0), (48, .istore_n 3, 1, 0, 0), (49, .aload_n 0, 1, 0, 0), (50, .dup, 1, 0, 0), (51, .getfield 36, 3, 4, 7), (54, .aload_n 0, 1, 0, 0), (55, .getfield 24, 3, 4, 0), (58, .getfield 92, 3, 3, 2), (61, .iload_n 1, 1, 0, 0), (62, .iaload, 1, 0, 0), (63, .isub, 1, 0, 0), (64, .putfield 36, 3, 4, 7), (67, .aload_n 0, 1, 0, 0), (68, .getfield 28, 3, 4, 1), (71, .aload_n 0, 1, 0, 0), (72, .getfield 15, 3, 4, 5), (75, .aload_n 0, 1, 0, 0), (76, .getfield 36, 3, 4, 7), (79, .iconst 1, 1, 0, 0), (80, .isub, 1, 0, 0), (81, .iaload, 1, 0, 0), (82, .iload_n 2, 1, 0, 0), (83, .invokevirtual 49, 3, 78, 0), (86, .istore 4, 2, 0, 0), (88, .iload 4, 2, 0, 0), (90, .invokestatic 55, 3, 25, 0), (93, .ifCond .ne 5, 3, 55, 0), (96, .iconst 3, 1, 0, 0), (97, .ireturn, 1, 0, 0), (98, .aload_n 0, 1, 0, 0), (99, .iload_n 3, 1, 0, 0), (100, .iload 4, 2, 0, 0), (102, .invokevirtual 74, 3, 125, 0), (105, .iconst 0, 1, 0, 0), (106, .ireturn, 1, 0, 0)]
/-- ParserProof$Parser.isRowOnStack(I)Z -/
def L_122 : List ab_I := [(0, .aload_n 0, 1, 0, 0), (1, .getfield 24, 3, 4, 0), (4, .getfield 92, 3, 3, 2), (7, .iload_n 1, 1, 0, 0), (8, .iaload, 1, 0, 0), (9, .istore_n 2, 1, 0, 0), (10, .aload_n 0, 1, 0, 0), (11, .getfield 36, 3, 4, 7), (14, .iload_n 2, 1, 0, 0), (15, .isub, 1, 0, 0), (16, .istore_n 3, 1, 0, 0), (17, .iload_n 3, 1, 0, 0), (18, .iconst 1, 1, 0, 0), (19, .if_icmp .ge 5, 3, 16, 0), (22, .iconst 0, 1, 0, 0), (23, .ireturn, 1, 0, 0), (24, .iconst 0, 1, 0, 0), (25, .istore 4, 2, 0, 0), (27, .iload 4, 2, 0, 0), (29, .iload_n 2, 1, 0, 0), (30, .if_icmp .ge 38, 3, 40, 0), (33, .aload_n 0, 1, 0, 0), (34, .aload_n 0, 1, 0, 0), (35, .getfield 18, 3, 4, 6), (38, .iload_n 3, 1, 0, 0), (39, .iload 4, 2, 0, 0), (41, .iadd, 1, 0, 0), (42, .iaload, 1, 0, 0), (43, .iconst 0, 1, 0, 0), (44, .invokevirtual 95, 3, 117, 0), (47, .aload_n 0, 1, 0, 0), (48, .getfield 24, 3, 4, 0), (51, .iload_n 1, 1, 0, 0), (52, .iload 4, 2, 0, 0), (54, .invokevirtual 98, 3, 111, 0), (57, .if_icmp .eq 5, 3, 38, 0), (60, .iconst 0, 1, 0, 0), (61, .ireturn, 1, 0, 0), (62, .iinc 4 1, 3, 0, 0), (65, .goto (-38), 3, 18, 0), (68, .iconst 1, 1, 0, 0), (69, .ireturn, 1, 0, 0)]
/-- ParserProof$Parser.addParent(II)I -/
def L_123 : List ab_I := [(0, .aload_n 0, 1, 0, 0), (1, .getfield 36, 3, 4, 7), (4, .aload_n 0, 1, 0, 0), (5, .getfield 24, 3, 4, 0), (8, .getfield 92, 3, 3, 2), (11, .iload_n 2, 1, 0, 0), (12, .iaload, 1, 0, 0), (13, .isub, 1, 0, 0), (14, .istore_n 3, 1, 0, 0), (15, .iconst 0, 1, 0, 0), (16, .istore 4, 2, 0, 0), (18, .iload_n 3, 1, 0, 0), (19, .istore 5, 2, 0, 0), (21, .iload 5, 2, 0, 0), (23, .aload_n 0, 1, 0, 0), (24, .getfield 36, 3, 4, 7), (27, .if_icmp .ge 46, 3, 42, 0), (30, .aload_n 0, 1, 0, 0), (31, .getfield 21, 3, 4, 8), (34, .aload_n 0, 1, 0, 0), (35, .getfield 18, 3, 4, 6), (38, .iload 5, 2, 0, 0), (40, .iaload, 1, 0, 0), (41, .iconst 5, 1, 0, 0), (42, .imul, 1, 0, 0), (43, .iconst 2, 1, 0, 0), (44, .iadd, 1, 0, 0), (45, .aload_n 0, 1, 0, 0), (46, .getfield 39, 3, 4, 9), (49, .iastore, 1, 0, 0), (50, .iload 4, 2, 0, 0), (52, .aload_n 0, 1, 0, 0), (53, .aload_n 0, 1, 0, 0), (54, .getfield 18, 3, 4, 6), (57, .iload 5, 2, 0, 0), (59, .iaload, 1, 0, 0), (60, .iconst 4, 1, 0, 0), (61, .invokevirtual 95, 3, 117, 0), (64, .iadd, 1, 0, 0), (65, .istore 4, 2, 0, 0), (67, .iinc 5 1, 3, 0, 0), (70, .goto (-49), 3, 13, 0), (73, .aload_n 0, 1, 0, 0), (74, .iload_n 1, 1, 0, 0), (75, .iload_n 2, 1, 0, 0), (76, .aload_n 0, 1, 0, 0), (77, .getfield 42, 3, 4, 4), (80, .iload 4, 2, 0, 0), (82, .isub, 1, 0, 0), (83, .iload 4, 2, 0, 0), (85, .invokevirtual 70, 3, 124, 0), (88, .ireturn, 1, 0, 0)]
/-- ParserProof$Parser.addNode(IIII)I -/
def L_124 : List ab_I := [(0, .aload_n 0, 1, 0, 0), (1, .getfield 39, 3, 4, 9), (4, .iconst 5, 1, 0, 0), (5, .imul, 1, 0, 0), (6, .istore 5, 2, 0, 0), (8, .aload_n 0, 1, 0, 0), (9, .getfield 21, 3, 4, 8), (12, .iload 5, 2, 0, 0), (14, .iconst 0, 1, 0, 0), (15, .iadd, 1, 0, 0), (16, .iload_n 1, 1, 0, 0), (17, .iastore, 1, 0, 0), (18, .aload_n 0, 1, 0, 0), (19, .getfield 21, 3, 4, 8), (22, .iload 5, 2, 0, 0), (24, .iconst 1, 1, 0, 0), (25, .iadd, 1, 0, 0), (26, .iload_n 2, 1, 0, 0), (27, .iastore, 1, 0, 0), (28, .aload_n 0, 1, 0, 0), (29, .getfield 21, 3, 4, 8), (32, .iload 5, 2, 0, 0), (34, .iconst 2, 1, 0, 0), (35, .iadd, 1, 0, 0), (36, .iconst (-1), 1, 0, 0), (37, .iastore, 1, 0, 0), (38, .aload_n 0, 1, 0, 0), (39, .getfield 21, 3, 4, 8), (42, .iload 5, 2, 0, 0), (44, .iconst 3, 1, 0, 0), (45, .iadd, 1, 0, 0), (46, .iload_n 3, 1, 0, 0), (47, .iastore, 1, 0, 0), (48, .aload_n 0, 1, 0, 0), (49, .getfield 21, 3, 4, 8), (52, .iload 5, 2, 0, 0), (54, .iconst 4, 1, 0, 0), (55, .iadd, 1, 0, 0), (56, .iload 4, 2, 0, 0), (58, .iastore, 1, 0, 0), (59, .aload_n 0, 1, 0, 0), (60, .dup, 1, 0, 0), (61, .getfield 39, 3, 4, 9), (64, .iconst 1, 1, 0, 0), (65, .iadd, 1, 0, 0), (66, .putfield 39, 3, 4, 9), (69, .aload_n 0, 1, 0, 0), (70, .getfield 39, 3, 4, 9), (73, .iconst 1, 1, 0, 0), (74, .isub, 1, 0, 0), (75, .ireturn, 1, 0, 0)]
/-- ParserProof$Parser.push(II)V -/
def L_125 : List ab_I := [(0, .aload_n 0, 1, 0, 0), (1, .getfield 18, 3, 4, 6), (4, .aload_n 0, 1, 0, 0), (5, .getfield 36, 3, 4, 7), (8, .iload_n 1, 1, 0, 0), (9, .iastore, 1, 0, 0), (10, .aload_n 0, 1, 0, 0), (11, .getfield 15, 3, 4, 5), (14, .aload_n 0, 1, 0, 0), (15, .getfield 36, 3, 4, 7), (18, .iload_n 2, 1, 0, 0), (19, .iastore, 1, 0, 0), (20, .aload_n 0, 1, 0, 0), (21, .dup, 1, 0, 0), (22, .getfield 36, 3, 4, 7), (25, .iconst 1, 1, 0, 0), (26, .iadd, 1, 0, 0), (27, .putfield 36, 3, 4, 7), (30, .return_, 1, 0, 0)]
/-- ParserProof$Parser.isStartAlone()Z -/
def L_126 : List ab_I := [(0, .aload_n 0, 1, 0, 0), (1, .getfield 36, 3, 4, 7), (4, .iconst 2, 1, 0, 0), (5, .if_icmp .ne 28, 3, 17, 0), (8, .aload_n 0, 1, 0, 0), (9, .aload_n 0, 1, 0, 0), (10, .getfield 18, 3, 4, 6), (13, .iconst 1, 1, 0, 0), (14, .iaload, 1, 0, 0), (15, .iconst 0, 1, 0, 0), (16, .invokevirtual 95, 3, 117, 0), (19, .aload_n 0, 1, 0, 0), (20, .getfield 24, 3, 4, 0), (23, .invokevirtual 101, 3, 110, 0), (26, .if_icmp .ne 7, 3, 17, 0), (29, .iconst 1, 1, 0, 0), (30, .goto 4, 3, 18, 0), (33, .iconst 0, 1, 0, 0), (34, .ireturn, 1, 0, 0)]
/-- ParserProofLaw.rule(LParserProof;I[J)I -/
def L_127 : List ab_I := [(0, .aload_n 2, 1, 0, 0), (1, .iconst 0, 1, 0, 0), (2, .aload_n 0, 1, 0, 0), (3, .iload_n 1, 1, 0, 0), (4, .invokevirtual 7, 3, 0, 0), (7, .i2l, 1, 0, 0), (8, .lastore, 1, 0, 0), (9, .goto 9, 3, 14, 0), (12, .astore_n 3, 1, 0, 0), (13, .iconst 1, 1, 0, 0), (14, .ireturn, 1, 0, 0), (15, .astore_n 3, 1, 0, 0), (16, .iconst 2, 1, 0, 0), (17, .ireturn, 1, 0, 0), (18, .iconst 0, 1, 0, 0), (19, .ireturn, 1, 0, 0)]
/-- ParserProofLaw.build(LParserProof;[J)I -/
def L_128 : List ab_I := [(0, .aload_n 1, 1, 0, 0), (1, .iconst 0, 1, 0, 0), (2, .aload_n 0, 1, 0, 0), (3, .invokevirtual 17, 3, 2, 0), (6, .i2l, 1, 0, 0), (7, .lastore, 1, 0, 0), (8, .goto 9, 3, 13, 0), (11, .astore_n 2, 1, 0, 0), (12, .iconst 1, 1, 0, 0), (13, .ireturn, 1, 0, 0), (14, .astore_n 2, 1, 0, 0), (15, .iconst 2, 1, 0, 0), (16, .ireturn, 1, 0, 0), (17, .iconst 0, 1, 0, 0), (18, .ireturn, 1, 0, 0)]
/-- ParserProofLaw.entry(LParserProof;II[J)I -/
def L_129 : List ab_I := [(0, .aload_n 3, 1, 0, 0), (1, .iconst 0, 1, 0, 0), (2, .aload_n 0, 1, 0, 0), (3, .iload_n 1, 1, 0, 0), (4, .iload_n 2, 1, 0, 0), (5, .invokevirtual 23, 3, 4, 0), (8, .i2l, 1, 0, 0), (9, .lastore, 1, 0, 0), (10, .goto 7, 3, 12, 0), (13, .astore 4, 2, 0, 0), (15, .iconst 1, 1, 0, 0), (16, .ireturn, 1, 0, 0), (17, .iconst 0, 1, 0, 0), (18, .ireturn, 1, 0, 0)]
/-- ParserProofLaw.set(LParserProof;III)I -/
def L_130 : List ab_I := [(0, .aload_n 0, 1, 0, 0), (1, .iload_n 1, 1, 0, 0), (2, .iload_n 2, 1, 0, 0), (3, .iload_n 3, 1, 0, 0), (4, .invokevirtual 29, 3, 5, 0), (7, .goto 11, 3, 12, 0), (10, .astore 4, 2, 0, 0), (12, .iconst 1, 1, 0, 0), (13, .ireturn, 1, 0, 0), (14, .astore 4, 2, 0, 0), (16, .iconst 2, 1, 0, 0), (17, .ireturn, 1, 0, 0), (18, .iconst 0, 1, 0, 0), (19, .ireturn, 1, 0, 0)]
/-- ParserProofLaw.has(LParserProof;IIII[J)I -/
def L_131 : List ab_I := [(0, .aload 5, 2, 0, 0), (2, .iconst 0, 1, 0, 0), (3, .aload_n 0, 1, 0, 0), (4, .iload_n 1, 1, 0, 0), (5, .iload_n 2, 1, 0, 0), (6, .iload_n 3, 1, 0, 0), (7, .iload 4, 2, 0, 0), (9, .invokevirtual 33, 3, 6, 0), (12, .ifCond .eq 7, 3, 11, 0), (15, .lconst 1, 1, 0, 0), (16, .goto 4, 3, 12, 0), (19, .lconst 0, 1, 0, 0), (20, .lastore, 1, 0, 0), (21, .goto 11, 3, 20, 0), (24, .astore 6, 2, 0, 0), (26, .iconst 1, 1, 0, 0), (27, .ireturn, 1, 0, 0), (28, .astore 6, 2, 0, 0), (30, .iconst 2, 1, 0, 0), (31, .ireturn, 1, 0, 0), (32, .iconst 0, 1, 0, 0), (33, .ireturn, 1, 0, 0)]
/-- ParserProofLaw.turn(LParserProof;IIII[J)I -/
def L_132 : List ab_I := [(0, .aload 5, 2, 0, 0), (2, .iconst 0, 1, 0, 0), (3, .aload_n 0, 1, 0, 0), (4, .iload_n 1, 1, 0, 0), (5, .iload_n 2, 1, 0, 0), (6, .iload_n 3, 1, 0, 0), (7, .iload 4, 2, 0, 0), (9, .invokevirtual 37, 3, 7, 0), (12, .ifCond .eq 7, 3, 11, 0), (15, .lconst 1, 1, 0, 0), (16, .goto 4, 3, 12, 0), (19, .lconst 0, 1, 0, 0), (20, .lastore, 1, 0, 0), (21, .goto 11, 3, 20, 0), (24, .astore 6, 2, 0, 0), (26, .iconst 1, 1, 0, 0), (27, .ireturn, 1, 0, 0), (28, .astore 6, 2, 0, 0), (30, .iconst 2, 1, 0, 0), (31, .ireturn, 1, 0, 0), (32, .iconst 0, 1, 0, 0), (33, .ireturn, 1, 0, 0)]
/-- ParserProofLaw.check(LParserProof;[J)I -/
def L_133 : List ab_I := [(0, .aload_n 1, 1, 0, 0), (1, .iconst 0, 1, 0, 0), (2, .aload_n 0, 1, 0, 0), (3, .invokevirtual 40, 3, 8, 0), (6, .i2l, 1, 0, 0), (7, .lastore, 1, 0, 0), (8, .goto 6, 3, 10, 0), (11, .astore_n 2, 1, 0, 0), (12, .iconst 1, 1, 0, 0), (13, .ireturn, 1, 0, 0), (14, .iconst 0, 1, 0, 0), (15, .ireturn, 1, 0, 0)]
/-- ParserProofLaw.parse(LParserProof;I[J)I -/
def L_134 : List ab_I := [(0, .aload_n 2, 1, 0, 0), (1, .iconst 0, 1, 0, 0), (2, .aload_n 0, 1, 0, 0), (3, .iload_n 1, 1, 0, 0), (4, .invokevirtual 43, 3, 12, 0), (7, .i2l, 1, 0, 0), (8, .lastore, 1, 0, 0), (9, .goto 9, 3, 14, 0), (12, .astore_n 3, 1, 0, 0), (13, .iconst 1, 1, 0, 0), (14, .ireturn, 1, 0, 0), (15, .astore_n 3, 1, 0, 0), (16, .iconst 2, 1, 0, 0), (17, .ireturn, 1, 0, 0), (18, .iconst 0, 1, 0, 0), (19, .ireturn, 1, 0, 0)]
/-- ParserProofLaw.node(LParserProof;II[J)I -/
def L_135 : List ab_I := [(0, .aload_n 3, 1, 0, 0), (1, .iconst 0, 1, 0, 0), (2, .aload_n 0, 1, 0, 0), (3, .iload_n 1, 1, 0, 0), (4, .iload_n 2, 1, 0, 0), (5, .invokevirtual 46, 3, 14, 0), (8, .i2l, 1, 0, 0), (9, .lastore, 1, 0, 0), (10, .goto 11, 3, 15, 0), (13, .astore 4, 2, 0, 0), (15, .iconst 1, 1, 0, 0), (16, .ireturn, 1, 0, 0), (17, .astore 4, 2, 0, 0), (19, .iconst 2, 1, 0, 0), (20, .ireturn, 1, 0, 0), (21, .iconst 0, 1, 0, 0), (22, .ireturn, 1, 0, 0)]
/-- ParserProofLaw.law([I)Z -/
def L_136 : List ab_I := [(0, .new 8, 3, 0, 0), (3, .dup, 1, 0, 0), (4, .invokespecial 49, 3, 0, 0), (7, .astore_n 1, 1, 0, 0), (8, .new 50, 3, 0, 0), (11, .dup, 1, 0, 0), (12, .invokespecial 52, 3, 0, 0), (15, .astore_n 2, 1, 0, 0), (16, .iconst 1, 1, 0, 0), (17, .newarray .long, 2, 0, 0), (19, .astore_n 3, 1, 0, 0), (20, .iconst 0, 1, 0, 0), (21, .istore 4, 2, 0, 0), (23, .iload 4, 2, 0, 0), (25, .aload_n 0, 1, 0, 0), (26, .arraylength, 1, 0, 0), (27, .iconst 5, 1, 0, 0), (28, .isub, 1, 0, 0), (29, .if_icmp .gt 798, 3, 480, 0), (32, .aload_n 0, 1, 0, 0), (33, .iload 4, 2, 0, 0), (35, .iaload, 1, 0, 0), (36, .bipush 15, 2, 0, 0), (38, .iand, 1, 0, 0), (39, .tableswitch 782 0 15 #[77, 133, 144, 188, 201, 269, 329, 428, 527, 571, 596, 621, 632, 688, 701, 769], 77, 478, 0), (116, .aload_n 1, 1, 0, 0), (117, .aload_n 0, 1, 0, 0), (118, .iload 4, 2, 0, 0), (120, .iconst 1, 1, 0, 0), (121, .iadd, 1, 0, 0), (122, .iaload, 1, 0, 0), (123, .aload_n 3, 1, 0, 0), (124, .invokestatic 53, 3, 127, 0), (127, .istore 5, 2, 0, 0), (129, .aload_n 2, 1, 0, 0), (130, .aload_n 0, 1, 0, 0), (131, .iload 4, 2, 0, 0), (133, .iconst 1, 1, 0, 0), (134, .iadd, 1, 0, 0), (135, .iaload, 1, 0, 0), (136, .invokevirtual 58, 3, 32, 0), (139, .istore 6, 2, 0, 0), (141, .aload_n 2, 1, 0, 0), (142, .invokevirtual 59, 3, 28, 0), (145, .iload 5, 2, 0, 0), (147, .if_icmp .eq 5, 3, 48, 0), (150, .iconst 0, 1, 0, 0), (151, .ireturn, 1, 0, 0), (152, .iload 5, 2, 0, 0), (154, .ifCond .ne 15, 3, 59, 0), (157, .aload_n 3, 1, 0, 0), (158, .iconst 0, 1, 0, 0), (159, .laload, 1, 0, 0), (160, .iload 6, 2, 0, 0), (162, .i2l, 1, 0, 0), (163, .lcmp, 1, 0, 0), (164, .ifCond .eq 5, 3, 59, 0), (167, .iconst 0, 1, 0, 0), (168, .ireturn, 1, 0, 0), (169, .goto 652, 3, 478, 0), (172, .aload_n 1, 1, 0, 0), (173, .invokevirtual 62, 3, 1, 0), (176, .aload_n 2, 1, 0, 0), (177, .invokevirtual 65, 3, 34, 0), (180, .goto 641, 3, 478, 0), (183, .aload_n 1, 1, 0, 0), (184, .aload_n 3, 1, 0, 0), (185, .invokestatic 66, 3, 128, 0), (188, .istore 5, 2, 0, 0), (190, .aload_n 2, 1, 0, 0), (191, .invokevirtual 69, 3, 49, 0), (194, .istore 6, 2, 0, 0), (196, .aload_n 2, 1, 0, 0), (197, .invokevirtual 59, 3, 28, 0), (200, .iload 5, 2, 0, 0), (202, .if_icmp .eq 5, 3, 78, 0), (205, .iconst 0, 1, 0, 0), (206, .ireturn, 1, 0, 0), (207, .iload 5, 2, 0, 0), (209, .ifCond .ne 15, 3, 89, 0), (212, .aload_n 3, 1, 0, 0), (213, .iconst 0, 1, 0, 0), (214, .laload, 1, 0, 0), (215, .iload 6, 2, 0, 0), (217, .i2l, 1, 0, 0), (218, .lcmp, 1, 0, 0), (219, .ifCond .eq 5, 3, 89, 0), (222, .iconst 0, 1, 0, 0), (223, .ireturn, 1, 0, 0), (224, .goto 597, 3, 478, 0), (227, .aload_n 1, 1, 0, 0), (228, .invokevirtual 70, 3, 3, 0), (231, .aload_n 2, 1, 0, 0), (232, .invokevirtual 73, 3, 50, 0), (235, .if_icmp .eq 586, 3, 478, 0), (238, .iconst 0, 1, 0, 0), (239, .ireturn, 1, 0, 0), (240, .aload_n 1, 1, 0, 0), (241, .aload_n 0, 1, 0, 0), (242, .iload 4, 2, 0, 0), (244, .iconst 1, 1, 0, 0), (245, .iadd, 1, 0, 0), (246, .iaload, 1, 0, 0), (247, .aload_n 0, 1, 0, 0), (248, .iload 4, 2, 0, 0), (250, .iconst 2, 1, 0, 0), (251, .iadd, 1, 0, 0), (252, .iaload, 1, 0, 0), (253, .aload_n 3, 1, 0, 0), (254, .invokestatic 74, 3, 129, 0), (257, .istore 5, 2, 0, 0), (259, .aload_n 2, 1, 0, 0), (260, .aload_n 0, 1, 0, 0), (261, .iload 4, 2, 0, 0), (263, .iconst 1, 1, 0, 0), (264, .iadd, 1, 0, 0), (265, .iaload, 1, 0, 0), (266, .aload_n 0, 1, 0, 0), (267, .iload 4, 2, 0, 0), (269, .iconst 2, 1, 0, 0), (270, .iadd, 1, 0, 0), (271, .iaload, 1, 0, 0), (272, .invokevirtual 77, 3, 53, 0), (275, .istore 6, 2, 0, 0), (277, .aload_n 2, 1, 0, 0), (278, .invokevirtual 59, 3, 28, 0), (281, .iload 5, 2, 0, 0), (283, .if_icmp .eq 5, 3, 130, 0), (286, .iconst 0, 1, 0, 0), (287, .ireturn, 1, 0, 0), (288, .iload 5, 2, 0, 0), (290, .ifCond .ne 15, 3, 141, 0), (293, .aload_n 3, 1, 0, 0), (294, .iconst 0, 1, 0, 0), (295, .laload, 1, 0, 0), (296, .iload 6, 2, 0, 0), (298, .i2l, 1, 0, 0), (299, .lcmp, 1, 0, 0), (300, .ifCond .eq 5, 3, 141, 0), (303, .iconst 0, 1, 0, 0), (304, .ireturn, 1, 0, 0), (305, .goto 516, 3, 478, 0), (308, .aload_n 1, 1, 0, 0), (309, .aload_n 0, 1, 0, 0), (310, .iload 4, 2, 0, 0), (312, .iconst 1, 1, 0, 0), (313, .iadd, 1, 0, 0), (314, .iaload, 1, 0, 0), (315, .aload_n 0, 1, 0, 0), (316, .iload 4, 2, 0, 0), (318, .iconst 2, 1, 0, 0), (319, .iadd, 1, 0, 0), (320, .iaload, 1, 0, 0), (321, .aload_n 0, 1, 0, 0), (322, .iload 4, 2, 0, 0), (324, .iconst 3, 1, 0, 0), (325, .iadd, 1, 0, 0), (326, .iaload, 1, 0, 0), (327, .invokestatic 78, 3, 130, 0), (330, .istore 5, 2, 0, 0), (332, .aload_n 2, 1, 0, 0), (333, .aload_n 0, 1, 0, 0), (334, .iload 4, 2, 0, 0), (336, .iconst 1, 1, 0, 0), (337, .iadd, 1, 0, 0), (338, .iaload, 1, 0, 0), (339, .aload_n 0, 1, 0, 0), (340, .iload 4, 2, 0, 0), (342, .iconst 2, 1, 0, 0), (343, .iadd, 1, 0, 0), (344, .iaload, 1, 0, 0), (345, .aload_n 0, 1, 0, 0), (346, .iload 4, 2, 0, 0), (348, .iconst 3, 1, 0, 0), (349, .iadd, 1, 0, 0), (350, .iaload, 1, 0, 0), (351, .invokevirtual 81, 3, 54, 0), (354, .aload_n 2, 1, 0, 0), (355, .invokevirtual 59, 3, 28, 0), (358, .iload 5, 2, 0, 0), (360, .if_icmp .eq 5, 3, 183, 0), (363, .iconst 0, 1, 0, 0), (364, .ireturn, 1, 0, 0), (365, .goto 456, 3, 478, 0), (368, .aload_n 1, 1, 0, 0), (369, .aload_n 0, 1, 0, 0), (370, .iload 4, 2, 0, 0), (372, .iconst 1, 1, 0, 0), (373, .iadd, 1, 0, 0), (374, .iaload, 1, 0, 0), (375, .aload_n 0, 1, 0, 0), (376, .iload 4, 2, 0, 0), (378, .iconst 2, 1, 0, 0), (379, .iadd, 1, 0, 0), (380, .iaload, 1, 0, 0), (381, .aload_n 0, 1, 0, 0), (382, .iload 4, 2, 0, 0), (384, .iconst 3, 1, 0, 0), (385, .iadd, 1, 0, 0), (386, .iaload, 1, 0, 0), (387, .aload_n 0, 1, 0, 0), (388, .iload 4, 2, 0, 0), (390, .iconst 4, 1, 0, 0), (391, .iadd, 1, 0, 0), (392, .iaload, 1, 0, 0), (393, .aload_n 3, 1, 0, 0), (394, .invokestatic 82, 3, 131, 0), (397, .istore 5, 2, 0, 0), (399, .aload_n 2, 1, 0, 0), (400, .aload_n 0, 1, 0, 0), (401, .iload 4, 2, 0, 0), (403, .iconst 1, 1, 0, 0), (404, .iadd, 1, 0, 0), (405, .iaload, 1, 0, 0), (406, .aload_n 0, 1, 0, 0), (407, .iload 4, 2, 0, 0), (409, .iconst 2, 1, 0, 0), (410, .iadd, 1, 0, 0), (411, .iaload, 1, 0, 0), (412, .aload_n 0, 1, 0, 0), (413, .iload 4, 2, 0, 0), (415, .iconst 3, 1, 0, 0), (416, .iadd, 1, 0, 0), (417, .iaload, 1, 0, 0), (418, .aload_n 0, 1, 0, 0), (419, .iload 4, 2, 0, 0), (421, .iconst 4, 1, 0, 0), (422, .iadd, 1, 0, 0), (423, .iaload, 1, 0, 0), (424, .invokevirtual 85, 3, 56, 0), (427, .istore 6, 2, 0, 0), (429, .aload_n 2, 1, 0, 0), (430, .invokevirtual 59, 3, 28, 0), (433, .iload 5, 2, 0, 0), (435, .if_icmp .eq 5, 3, 237, 0), (438, .iconst 0, 1, 0, 0), (439, .ireturn, 1, 0, 0), (440, .iload 5, 2, 0, 0), (442, .ifCond .ne 22, 3, 251, 0), (445, .aload_n 3, 1, 0, 0), (446, .iconst 0, 1, 0, 0), (447, .laload, 1, 0, 0), (448, .iload 6, 2, 0, 0), (450, .ifCond .eq 7, 3, 246, 0), (453, .lconst 1, 1, 0, 0), (454, .goto 4, 3, 247, 0), (457, .lconst 0, 1, 0, 0), (458, .lcmp, 1, 0, 0), (459, .ifCond .eq 5, 3, 251, 0), (462, .iconst 0, 1, 0, 0), (463, .ireturn, 1, 0, 0), (464, .goto 357, 3, 478, 0), (467, .aload_n 1, 1, 0, 0), (468, .aload_n 0, 1, 0, 0), (469, .iload 4, 2, 0, 0), (471, .iconst 1, 1, 0, 0), (472, .iadd, 1, 0, 0), (473, .iaload, 1, 0, 0), (474, .aload_n 0, 1, 0, 0), (475, .iload 4, 2, 0, 0), (477, .iconst 2, 1, 0, 0), (478, .iadd, 1, 0, 0), (479, .iaload, 1, 0, 0), (480, .aload_n 0, 1, 0, 0), (481, .iload 4, 2, 0, 0), (483, .iconst 3, 1, 0, 0), (484, .iadd, 1, 0, 0), (485, .iaload, 1, 0, 0), (486, .aload_n 0, 1, 0, 0), (487, .iload 4, 2, 0, 0), (489, .iconst 4, 1, 0, 0), (490, .iadd, 1, 0, 0), (491, .iaload, 1, 0, 0), (492, .aload_n 3, 1, 0, 0), (493, .invokestatic 86, 3, 132, 0), (496, .istore 5, 2, 0, 0), (498, .aload_n 2, 1, 0, 0), (499, .aload_n 0, 1, 0, 0), (500, .iload 4, 2, 0, 0), (502, .iconst 1, 1, 0, 0), (503, .iadd, 1, 0, 0), (504, .iaload, 1, 0, 0), (505, .aload_n 0, 1, 0, 0), (506, .iload 4, 2, 0, 0), (508, .iconst 2, 1, 0, 0), (509, .iadd, 1, 0, 0), (510, .iaload, 1, 0, 0), (511, .aload_n 0, 1, 0, 0), (512, .iload 4, 2, 0, 0), (514, .iconst 3, 1, 0, 0), (515, .iadd, 1, 0, 0), (516, .iaload, 1, 0, 0), (517, .aload_n 0, 1, 0, 0), (518, .iload 4, 2, 0, 0), (520, .iconst 4, 1, 0, 0), (521, .iadd, 1, 0, 0), (522, .iaload, 1, 0, 0), (523, .invokevirtual 88, 3, 57, 0), (526, .istore 6, 2, 0, 0), (528, .aload_n 2, 1, 0, 0), (529, .invokevirtual 59, 3, 28, 0), (532, .iload 5, 2, 0, 0), (534, .if_icmp .eq 5, 3, 305, 0), (537, .iconst 0, 1, 0, 0), (538, .ireturn, 1, 0, 0), (539, .iload 5, 2, 0, 0), (541, .ifCond .ne 22, 3, 319, 0), (544, .aload_n 3, 1, 0, 0), (545, .iconst 0, 1, 0, 0), (546, .laload, 1, 0, 0), (547, .iload 6, 2, 0, 0), (549, .ifCond .eq 7, 3, 314, 0), (552, .lconst 1, 1, 0, 0), (553, .goto 4, 3, 315, 0), (556, .lconst 0, 1, 0, 0), (557, .lcmp, 1, 0, 0), (558, .ifCond .eq 5, 3, 319, 0), (561, .iconst 0, 1, 0, 0), (562, .ireturn, 1, 0, 0), (563, .goto 258, 3, 478, 0), (566, .aload_n 1, 1, 0, 0), (567, .aload_n 3, 1, 0, 0), (568, .invokestatic 89, 3, 133, 0), (571, .istore 5, 2, 0, 0), (573, .aload_n 2, 1, 0, 0), (574, .invokevirtual 91, 3, 65, 0), (577, .istore 6, 2, 0, 0), (579, .aload_n 2, 1, 0, 0), (580, .invokevirtual 59, 3, 28, 0), (583, .iload 5, 2, 0, 0), (585, .if_icmp .eq 5, 3, 333, 0), (588, .iconst 0, 1, 0, 0), (589, .ireturn, 1, 0, 0), (590, .iload 5, 2, 0, 0), (592, .ifCond .ne 15, 3, 344, 0), (595, .aload_n 3, 1, 0, 0), (596, .iconst 0, 1, 0, 0), (597, .laload, 1, 0, 0), (598, .iload 6, 2, 0, 0), (600, .i2l, 1, 0, 0), (601, .lcmp, 1, 0, 0), (602, .ifCond .eq 5, 3, 344, 0), (605, .iconst 0, 1, 0, 0), (606, .ireturn, 1, 0, 0), (607, .goto 214, 3, 478, 0), (610, .aload_n 1, 1, 0, 0), (611, .aload_n 0, 1, 0, 0), (612, .iload 4, 2, 0, 0), (614, .iconst 1, 1, 0, 0), (615, .iadd, 1, 0, 0), (616, .iaload, 1, 0, 0), (617, .invokevirtual 92, 3, 9, 0), (620, .aload_n 2, 1, 0, 0), (621, .aload_n 0, 1, 0, 0), (622, .iload 4, 2, 0, 0), (624, .iconst 1, 1, 0, 0), (625, .iadd, 1, 0, 0), (626, .iaload, 1, 0, 0), (627, .invokevirtual 95, 3, 66, 0), (630, .if_icmp .eq 191, 3, 478, 0), (633, .iconst 0, 1, 0, 0), (634, .ireturn, 1, 0, 0), (635, .aload_n 1, 1, 0, 0), (636, .aload_n 0, 1, 0, 0), (637, .iload 4, 2, 0, 0), (639, .iconst 1, 1, 0, 0), (640, .iadd, 1, 0, 0), (641, .iaload, 1, 0, 0), (642, .invokevirtual 96, 3, 10, 0), (645, .aload_n 2, 1, 0, 0), (646, .aload_n 0, 1, 0, 0), (647, .iload 4, 2, 0, 0), (649, .iconst 1, 1, 0, 0), (650, .iadd, 1, 0, 0), (651, .iaload, 1, 0, 0), (652, .invokevirtual 99, 3, 67, 0), (655, .if_icmp .eq 166, 3, 478, 0), (658, .iconst 0, 1, 0, 0), (659, .ireturn, 1, 0, 0), (660, .aload_n 1, 1, 0, 0), (661, .invokevirtual 100, 3, 11, 0), (664, .aload_n 2, 1, 0, 0), (665, .invokevirtual 103, 3, 68, 0), (668, .goto 153, 3, 478, 0), (671, .aload_n 1, 1, 0, 0), (672, .aload_n 0, 1, 0, 0), (673, .iload 4, 2, 0, 0), (675, .iconst 1, 1, 0, 0), (676, .iadd, 1, 0, 0), (677, .iaload, 1, 0, 0), (678, .aload_n 3, 1, 0, 0), (679, .invokestatic 104, 3, 134, 0), (682, .istore 5, 2, 0, 0), (684, .aload_n 2, 1, 0, 0), (685, .aload_n 0, 1, 0, 0), (686, .iload 4, 2, 0, 0), (688, .iconst 1, 1, 0, 0), (689, .iadd, 1, 0, 0), (690, .iaload, 1, 0, 0), (691, .invokevirtual 106, 3, 74, 0), (694, .istore 6, 2, 0, 0), (696, .aload_n 2, 1, 0, 0), (697, .invokevirtual 59, 3, 28, 0), (700, .iload 5, 2, 0, 0), (702, .if_icmp .eq 5, 3, 407, 0), (705, .iconst 0, 1, 0, 0), (706, .ireturn, 1, 0, 0), (707, .iload 5, 2, 0, 0), (709, .ifCond .ne 15, 3, 418, 0), (712, .aload_n 3, 1, 0, 0), (713, .iconst 0, 1, 0, 0), (714, .laload, 1, 0, 0), (715, .iload 6, 2, 0, 0), (717, .i2l, 1, 0, 0), (718, .lcmp, 1, 0, 0), (719, .ifCond .eq 5, 3, 418, 0), (722, .iconst 0, 1, 0, 0), (723, .ireturn, 1, 0, 0), (724, .goto 97, 3, 478, 0), (727, .aload_n 1, 1, 0, 0), (728, .invokevirtual 107, 3, 13, 0), (731, .aload_n 2, 1, 0, 0), (732, .invokevirtual 110, 3, 75, 0), (735, .if_icmp .eq 86, 3, 478, 0), (738, .iconst 0, 1, 0, 0), (739, .ireturn, 1, 0, 0), (740, .aload_n 1, 1, 0, 0), (741, .aload_n 0, 1, 0, 0), (742, .iload 4, 2, 0, 0), (744, .iconst 1, 1, 0, 0), (745, .iadd, 1, 0, 0), (746, .iaload, 1, 0, 0), (747, .aload_n 0, 1, 0, 0), (748, .iload 4, 2, 0, 0), (750, .iconst 2, 1, 0, 0), (751, .iadd, 1, 0, 0), (752, .iaload, 1, 0, 0), (753, .aload_n 3, 1, 0, 0), (754, .invokestatic 111, 3, 135, 0), (757, .istore 5, 2, 0, 0), (759, .aload_n 2, 1, 0, 0), (760, .aload_n 0, 1, 0, 0), (761, .iload 4, 2, 0, 0), (763, .iconst 1, 1, 0, 0), (764, .iadd, 1, 0, 0), (765, .iaload, 1, 0, 0), (766, .aload_n 0, 1, 0, 0), (767, .iload 4, 2, 0, 0), (769, .iconst 2, 1, 0, 0), (770, .iadd, 1, 0, 0), (771, .iaload, 1, 0, 0), (772, .invokevirtual 113, 3, 76, 0), (775, .istore 6, 2, 0, 0), (777, .aload_n 2, 1, 0, 0), (778, .invokevirtual 59, 3, 28, 0), (781, .iload 5, 2, 0, 0), (783, .if_icmp .eq 5, 3, 459, 0), (786, .iconst 0, 1, 0, 0), (787, .ireturn, 1, 0, 0), (788, .iload 5, 2, 0, 0), (790, .ifCond .ne 15, 3, 470, 0), (793, .aload_n 3, 1, 0, 0), (794, .iconst 0, 1, 0, 0), (795, .laload, 1, 0, 0), (796, .iload 6, 2, 0, 0), (798, .i2l, 1, 0, 0), (799, .lcmp, 1, 0, 0), (800, .ifCond .eq 5, 3, 470, 0), (803, .iconst 0, 1, 0, 0), (804, .ireturn, 1, 0, 0), (805, .goto 16, 3, 478, 0), (808, .aload_n 1, 1, 0, 0), (809, .invokevirtual 114, 3, 15, 0), (812, .aload_n 2, 1, 0, 0), (813, .invokevirtual 117, 3, 77, 0), (816, .if_icmp .eq 5, 3, 478, 0), (819, .iconst 0, 1, 0, 0), (820, .ireturn, 1, 0, 0), (821, .iinc 4 5, 3, 0, 0), (824, .goto (-801), 3, 13, 0), (827, .iconst 1, 1, 0, 0), (828, .ireturn, 1, 0, 0)]
/-- java/util/Arrays.fill([II)V -/
def L_137 : List ab_I := [(0, .iconst 0, 1, 0, 0), (1, .istore_n 2, 1, 0, 0), (2, .aload_n 0, 1, 0, 0), (3, .arraylength, 1, 0, 0), (4, .istore_n 3, 1, 0, 0), (5, .iload_n 2, 1, 0, 0), (6, .iload_n 3, 1, 0, 0), (7, .if_icmp .ge 13, 3, 14, 0), (10, .aload_n 0, 1, 0, 0), (11, .iload_n 2, 1, 0, 0), (12, .iload_n 1, 1, 0, 0), (13, .iastore, 1, 0, 0), (14, .iinc 2 1, 3, 0, 0), (17, .goto (-12), 3, 5, 0), (20, .return_, 1, 0, 0)]
/-- a method: own class, name, bytes, locals, answer, frames and words that it wants, listing -/
abbrev ab_Mt : Type := Nat × MethodName × ByteArray × Nat × Option FieldType × Nat × Nat × List ab_I
def Y_0 : MethodName := ⟨"ParserProof", "rule", "(I)I"⟩
def M_0 : ab_Mt := (5, Y_0, prog_1_method_2_code, 2, (Option.some FieldType.int), 6, 90, L_0)
def Y_1 : MethodName := ⟨"ParserProof", "clear", "()V"⟩
def M_1 : ab_Mt := (5, Y_1, prog_1_method_3_code, 1, (Option.none : Option FieldType), 3, 64, L_1)
def Y_2 : MethodName := ⟨"ParserProof", "build", "()I"⟩
def M_2 : ab_Mt := (5, Y_2, prog_1_method_4_code, 1, (Option.some FieldType.int), 6, 139, L_2)
def Y_3 : MethodName := ⟨"ParserProof", "states", "()I"⟩
def M_3 : ab_Mt := (5, Y_3, prog_1_method_5_code, 1, (Option.some FieldType.int), 0, 0, L_3)
def Y_4 : MethodName := ⟨"ParserProof", "entry", "(II)I"⟩
def M_4 : ab_Mt := (5, Y_4, prog_1_method_6_code, 3, (Option.some FieldType.int), 8, 133, L_4)
def Y_5 : MethodName := ⟨"ParserProof", "set", "(III)V"⟩
def M_5 : ab_Mt := (5, Y_5, prog_1_method_7_code, 4, (Option.none : Option FieldType), 8, 133, L_5)
def Y_6 : MethodName := ⟨"ParserProof", "has", "(IIII)Z"⟩
def M_6 : ab_Mt := (5, Y_6, prog_1_method_8_code, 5, (Option.some FieldType.boolean), 8, 135, L_6)
def Y_7 : MethodName := ⟨"ParserProof", "turn", "(IIII)Z"⟩
def M_7 : ab_Mt := (5, Y_7, prog_1_method_9_code, 5, (Option.some FieldType.boolean), 8, 135, L_7)
def Y_8 : MethodName := ⟨"ParserProof", "check", "()I"⟩
def M_8 : ab_Mt := (5, Y_8, prog_1_method_10_code, 1, (Option.some FieldType.int), 7, 166, L_8)
def Y_9 : MethodName := ⟨"ParserProof", "fault", "(I)I"⟩
def M_9 : ab_Mt := (5, Y_9, prog_1_method_11_code, 2, (Option.some FieldType.int), 1, 21, L_9)
def Y_10 : MethodName := ⟨"ParserProof", "feed", "(I)I"⟩
def M_10 : ab_Mt := (5, Y_10, prog_1_method_12_code, 2, (Option.some FieldType.int), 1, 21, L_10)
def Y_11 : MethodName := ⟨"ParserProof", "empty", "()V"⟩
def M_11 : ab_Mt := (5, Y_11, prog_1_method_13_code, 1, (Option.none : Option FieldType), 1, 20, L_11)
def Y_12 : MethodName := ⟨"ParserProof", "parse", "(I)I"⟩
def M_12 : ab_Mt := (5, Y_12, prog_1_method_14_code, 2, (Option.some FieldType.int), 7, 119, L_12)
def Y_13 : MethodName := ⟨"ParserProof", "nodes", "()I"⟩
def M_13 : ab_Mt := (5, Y_13, prog_1_method_15_code, 1, (Option.some FieldType.int), 0, 0, L_13)
def Y_14 : MethodName := ⟨"ParserProof", "node", "(II)I"⟩
def M_14 : ab_Mt := (5, Y_14, prog_1_method_16_code, 3, (Option.some FieldType.int), 6, 90, L_14)
def Y_15 : MethodName := ⟨"ParserProof", "depth", "()I"⟩
def M_15 : ab_Mt := (5, Y_15, prog_1_method_17_code, 1, (Option.some FieldType.int), 0, 0, L_15)
def Y_16 : MethodName := ⟨"ParserProof", "dropAutomaton", "()V"⟩
def M_16 : ab_Mt := (5, Y_16, prog_1_method_18_code, 1, (Option.none : Option FieldType), 2, 44, L_16)
def Y_17 : MethodName := ⟨"ParserProof", "requireAutomaton", "()V"⟩
def M_17 : ab_Mt := (5, Y_17, prog_1_method_19_code, 1, (Option.none : Option FieldType), 6, 90, L_17)
def Y_18 : MethodName := ⟨"ParserProof", "requireState", "(I)V"⟩
def M_18 : ab_Mt := (5, Y_18, prog_1_method_20_code, 2, (Option.none : Option FieldType), 6, 90, L_18)
def Y_19 : MethodName := ⟨"ParserProof", "requirePlace", "(II)V"⟩
def M_19 : ab_Mt := (5, Y_19, prog_1_method_21_code, 3, (Option.none : Option FieldType), 7, 111, L_19)
def Y_20 : MethodName := ⟨"ParserProof", "requireItem", "(IIII)V"⟩
def M_20 : ab_Mt := (5, Y_20, prog_1_method_22_code, 5, (Option.none : Option FieldType), 7, 111, L_20)
def Y_21 : MethodName := ⟨"ParserProof", "isItem", "(III)Z"⟩
def M_21 : ab_Mt := (5, Y_21, prog_1_method_23_code, 4, (Option.some FieldType.boolean), 1, 20, L_21)
def Y_22 : MethodName := ⟨"ParserProof", "isEntry", "(I)Z"⟩
def M_22 : ab_Mt := (5, Y_22, prog_1_method_24_code, 2, (Option.some FieldType.boolean), 1, 20, L_22)
def Y_23 : MethodName := ⟨"ParserProof", "isNonterminal", "(I)Z"⟩
def M_23 : ab_Mt := (5, Y_23, prog_1_method_25_code, 1, (Option.some FieldType.boolean), 0, 0, L_23)
def Y_24 : MethodName := ⟨"ParserProof", "isTerminal", "(I)Z"⟩
def M_24 : ab_Mt := (5, Y_24, prog_1_method_26_code, 1, (Option.some FieldType.boolean), 0, 0, L_24)
def Y_25 : MethodName := ⟨"ParserProof", "isGo", "(I)Z"⟩
def M_25 : ab_Mt := (5, Y_25, prog_1_method_27_code, 1, (Option.some FieldType.boolean), 0, 0, L_25)
def Y_26 : MethodName := ⟨"ParserProof", "bitOf", "(I)I"⟩
def M_26 : ab_Mt := (5, Y_26, prog_1_method_28_code, 1, (Option.some FieldType.int), 0, 0, L_26)
def Y_27 : MethodName := ⟨"ParserProof", "coreOf", "(II)I"⟩
def M_27 : ab_Mt := (5, Y_27, prog_1_method_29_code, 2, (Option.some FieldType.int), 0, 0, L_27)
def Y_28 : MethodName := ⟨"ParserProofModel", "thrown", "()I"⟩
def M_28 : ab_Mt := (6, Y_28, prog_8_method_2_code, 1, (Option.some FieldType.int), 0, 0, L_28)
def Y_29 : MethodName := ⟨"ParserProofModel", "fail", "(I)I"⟩
def M_29 : ab_Mt := (6, Y_29, prog_8_method_3_code, 2, (Option.some FieldType.int), 0, 0, L_29)
def Y_30 : MethodName := ⟨"ParserProofModel", "forgetParse", "()V"⟩
def M_30 : ab_Mt := (6, Y_30, prog_8_method_4_code, 1, (Option.none : Option FieldType), 0, 0, L_30)
def Y_31 : MethodName := ⟨"ParserProofModel", "note", "(IIII)Z"⟩
def M_31 : ab_Mt := (6, Y_31, prog_8_method_5_code, 5, (Option.some FieldType.boolean), 0, 0, L_31)
def Y_32 : MethodName := ⟨"ParserProofModel", "rule", "(I)I"⟩
def M_32 : ab_Mt := (6, Y_32, prog_8_method_6_code, 5, (Option.some FieldType.int), 2, 44, L_32)
def Y_33 : MethodName := ⟨"ParserProofModel", "forget", "()V"⟩
def M_33 : ab_Mt := (6, Y_33, prog_8_method_7_code, 1, (Option.none : Option FieldType), 1, 24, L_33)
def Y_34 : MethodName := ⟨"ParserProofModel", "clear", "()V"⟩
def M_34 : ab_Mt := (6, Y_34, prog_8_method_8_code, 1, (Option.none : Option FieldType), 2, 44, L_34)
def Y_35 : MethodName := ⟨"ParserProofModel", "sizeOf", "(I)I"⟩
def M_35 : ab_Mt := (6, Y_35, prog_8_method_9_code, 2, (Option.some FieldType.int), 0, 0, L_35)
def Y_36 : MethodName := ⟨"ParserProofModel", "next", "(II)I"⟩
def M_36 : ab_Mt := (6, Y_36, prog_8_method_10_code, 3, (Option.some FieldType.int), 1, 21, L_36)
def Y_37 : MethodName := ⟨"ParserProofModel", "vanishes", "(I)Z"⟩
def M_37 : ab_Mt := (6, Y_37, prog_8_method_11_code, 2, (Option.some FieldType.boolean), 0, 0, L_37)
def Y_38 : MethodName := ⟨"ParserProofModel", "isEmpty", "(III)Z"⟩
def M_38 : ab_Mt := (6, Y_38, prog_8_method_12_code, 6, (Option.some FieldType.boolean), 2, 43, L_38)
def Y_39 : MethodName := ⟨"ParserProofModel", "study", "()V"⟩
def M_39 : ab_Mt := (6, Y_39, prog_8_method_13_code, 3, (Option.none : Option FieldType), 3, 68, L_39)
def Y_40 : MethodName := ⟨"ParserProofModel", "isFirst", "(IIII)Z"⟩
def M_40 : ab_Mt := (6, Y_40, prog_8_method_14_code, 7, (Option.some FieldType.boolean), 3, 68, L_40)
def Y_41 : MethodName := ⟨"ParserProofModel", "item", "(III)I"⟩
def M_41 : ab_Mt := (6, Y_41, prog_8_method_15_code, 3, (Option.some FieldType.int), 0, 0, L_41)
def Y_42 : MethodName := ⟨"ParserProofModel", "has2", "(IIII)Z"⟩
def M_42 : ab_Mt := (6, Y_42, prog_8_method_16_code, 5, (Option.some FieldType.boolean), 1, 22, L_42)
def Y_43 : MethodName := ⟨"ParserProofModel", "add", "(I)V"⟩
def M_43 : ab_Mt := (6, Y_43, prog_8_method_17_code, 2, (Option.none : Option FieldType), 0, 0, L_43)
def Y_44 : MethodName := ⟨"ParserProofModel", "beginSet", "()V"⟩
def M_44 : ab_Mt := (6, Y_44, prog_8_method_18_code, 2, (Option.none : Option FieldType), 0, 0, L_44)
def Y_45 : MethodName := ⟨"ParserProofModel", "close", "()V"⟩
def M_45 : ab_Mt := (6, Y_45, prog_8_method_19_code, 7, (Option.none : Option FieldType), 4, 94, L_45)
def Y_46 : MethodName := ⟨"ParserProofModel", "settle", "()I"⟩
def M_46 : ab_Mt := (6, Y_46, prog_8_method_20_code, 4, (Option.some FieldType.int), 0, 0, L_46)
def Y_47 : MethodName := ⟨"ParserProofModel", "go", "(II)Z"⟩
def M_47 : ab_Mt := (6, Y_47, prog_8_method_21_code, 6, (Option.some FieldType.boolean), 5, 120, L_47)
def Y_48 : MethodName := ⟨"ParserProofModel", "reduce", "(I)Z"⟩
def M_48 : ab_Mt := (6, Y_48, prog_8_method_22_code, 7, (Option.some FieldType.boolean), 2, 43, L_48)
def Y_49 : MethodName := ⟨"ParserProofModel", "build", "()I"⟩
def M_49 : ab_Mt := (6, Y_49, prog_8_method_23_code, 4, (Option.some FieldType.int), 6, 145, L_49)
def Y_50 : MethodName := ⟨"ParserProofModel", "states", "()I"⟩
def M_50 : ab_Mt := (6, Y_50, prog_8_method_24_code, 1, (Option.some FieldType.int), 0, 0, L_50)
def Y_51 : MethodName := ⟨"ParserProofModel", "isState", "(I)Z"⟩
def M_51 : ab_Mt := (6, Y_51, prog_8_method_25_code, 2, (Option.some FieldType.boolean), 0, 0, L_51)
def Y_52 : MethodName := ⟨"ParserProofModel", "isSymbol", "(I)Z"⟩
def M_52 : ab_Mt := (6, Y_52, prog_8_method_26_code, 1, (Option.some FieldType.boolean), 0, 0, L_52)
def Y_53 : MethodName := ⟨"ParserProofModel", "entry", "(II)I"⟩
def M_53 : ab_Mt := (6, Y_53, prog_8_method_27_code, 3, (Option.some FieldType.int), 1, 21, L_53)
def Y_54 : MethodName := ⟨"ParserProofModel", "set", "(III)V"⟩
def M_54 : ab_Mt := (6, Y_54, prog_8_method_28_code, 5, (Option.none : Option FieldType), 1, 21, L_54)
def Y_55 : MethodName := ⟨"ParserProofModel", "isItem", "(III)Z"⟩
def M_55 : ab_Mt := (6, Y_55, prog_8_method_29_code, 4, (Option.some FieldType.boolean), 1, 21, L_55)
def Y_56 : MethodName := ⟨"ParserProofModel", "has", "(IIII)Z"⟩
def M_56 : ab_Mt := (6, Y_56, prog_8_method_30_code, 5, (Option.some FieldType.boolean), 2, 46, L_56)
def Y_57 : MethodName := ⟨"ParserProofModel", "turn", "(IIII)Z"⟩
def M_57 : ab_Mt := (6, Y_57, prog_8_method_31_code, 6, (Option.some FieldType.boolean), 2, 44, L_57)
def Y_58 : MethodName := ⟨"ParserProofModel", "goes", "(II)Z"⟩
def M_58 : ab_Mt := (6, Y_58, prog_8_method_32_code, 4, (Option.some FieldType.boolean), 0, 0, L_58)
def Y_59 : MethodName := ⟨"ParserProofModel", "isAnswered", "(IIII)Z"⟩
def M_59 : ab_Mt := (6, Y_59, prog_8_method_33_code, 8, (Option.some FieldType.boolean), 4, 94, L_59)
def Y_60 : MethodName := ⟨"ParserProofModel", "isBad", "(IIIII)Z"⟩
def M_60 : ab_Mt := (6, Y_60, prog_8_method_34_code, 8, (Option.some FieldType.boolean), 5, 121, L_60)
def Y_61 : MethodName := ⟨"ParserProofModel", "hasBadItem", "(I)Z"⟩
def M_61 : ab_Mt := (6, Y_61, prog_8_method_35_code, 7, (Option.some FieldType.boolean), 6, 148, L_61)
def Y_62 : MethodName := ⟨"ParserProofModel", "isForeign", "(II)Z"⟩
def M_62 : ab_Mt := (6, Y_62, prog_8_method_36_code, 8, (Option.some FieldType.boolean), 2, 43, L_62)
def Y_63 : MethodName := ⟨"ParserProofModel", "isBold", "(II)Z"⟩
def M_63 : ab_Mt := (6, Y_63, prog_8_method_37_code, 5, (Option.some FieldType.boolean), 2, 46, L_63)
def Y_64 : MethodName := ⟨"ParserProofModel", "hasBadEntry", "(I)Z"⟩
def M_64 : ab_Mt := (6, Y_64, prog_8_method_38_code, 4, (Option.some FieldType.boolean), 3, 70, L_64)
def Y_65 : MethodName := ⟨"ParserProofModel", "check", "()I"⟩
def M_65 : ab_Mt := (6, Y_65, prog_8_method_39_code, 4, (Option.some FieldType.int), 7, 174, L_65)
def Y_66 : MethodName := ⟨"ParserProofModel", "fault", "(I)I"⟩
def M_66 : ab_Mt := (6, Y_66, prog_8_method_40_code, 2, (Option.some FieldType.int), 0, 0, L_66)
def Y_67 : MethodName := ⟨"ParserProofModel", "feed", "(I)I"⟩
def M_67 : ab_Mt := (6, Y_67, prog_8_method_41_code, 2, (Option.some FieldType.int), 1, 20, L_67)
def Y_68 : MethodName := ⟨"ParserProofModel", "empty", "()V"⟩
def M_68 : ab_Mt := (6, Y_68, prog_8_method_42_code, 1, (Option.none : Option FieldType), 1, 20, L_68)
def Y_69 : MethodName := ⟨"ParserProofModel", "create", "(IIII)V"⟩
def M_69 : ab_Mt := (6, Y_69, prog_8_method_43_code, 5, (Option.none : Option FieldType), 0, 0, L_69)
def Y_70 : MethodName := ⟨"ParserProofModel", "push", "(I)V"⟩
def M_70 : ab_Mt := (6, Y_70, prog_8_method_44_code, 2, (Option.none : Option FieldType), 0, 0, L_70)
def Y_71 : MethodName := ⟨"ParserProofModel", "shift", "(I)I"⟩
def M_71 : ab_Mt := (6, Y_71, prog_8_method_45_code, 2, (Option.some FieldType.int), 1, 24, L_71)
def Y_72 : MethodName := ⟨"ParserProofModel", "reduceBy", "(I)I"⟩
def M_72 : ab_Mt := (6, Y_72, prog_8_method_46_code, 7, (Option.some FieldType.int), 1, 24, L_72)
def Y_73 : MethodName := ⟨"ParserProofModel", "advance", "()I"⟩
def M_73 : ab_Mt := (6, Y_73, prog_8_method_47_code, 2, (Option.some FieldType.int), 2, 50, L_73)
def Y_74 : MethodName := ⟨"ParserProofModel", "parse", "(I)I"⟩
def M_74 : ab_Mt := (6, Y_74, prog_8_method_48_code, 4, (Option.some FieldType.int), 3, 71, L_74)
def Y_75 : MethodName := ⟨"ParserProofModel", "nodes", "()I"⟩
def M_75 : ab_Mt := (6, Y_75, prog_8_method_49_code, 1, (Option.some FieldType.int), 0, 0, L_75)
def Y_76 : MethodName := ⟨"ParserProofModel", "node", "(II)I"⟩
def M_76 : ab_Mt := (6, Y_76, prog_8_method_50_code, 3, (Option.some FieldType.int), 1, 21, L_76)
def Y_77 : MethodName := ⟨"ParserProofModel", "depth", "()I"⟩
def M_77 : ab_Mt := (6, Y_77, prog_8_method_51_code, 1, (Option.some FieldType.int), 0, 0, L_77)
def Y_78 : MethodName := ⟨"ParserProof$Automaton", "entryAt", "(II)I"⟩
def M_78 : ab_Mt := (0, Y_78, prog_2_method_2_code, 3, (Option.some FieldType.int), 0, 0, L_78)
def Y_79 : MethodName := ⟨"ParserProof$Automaton", "putEntry", "(III)V"⟩
def M_79 : ab_Mt := (0, Y_79, prog_2_method_3_code, 4, (Option.none : Option FieldType), 0, 0, L_79)
def Y_80 : MethodName := ⟨"ParserProof$Automaton", "aheadsOf", "(III)I"⟩
def M_80 : ab_Mt := (0, Y_80, prog_2_method_4_code, 4, (Option.some FieldType.int), 1, 21, L_80)
def Y_81 : MethodName := ⟨"ParserProof$Automaton", "holds", "(IIII)Z"⟩
def M_81 : ab_Mt := (0, Y_81, prog_2_method_5_code, 5, (Option.some FieldType.boolean), 2, 44, L_81)
def Y_82 : MethodName := ⟨"ParserProof$Automaton", "flip", "(IIII)V"⟩
def M_82 : ab_Mt := (0, Y_82, prog_2_method_6_code, 5, (Option.none : Option FieldType), 1, 21, L_82)
def Y_83 : MethodName := ⟨"ParserProof$Automaton", "isSame", "(I[I)Z"⟩
def M_83 : ab_Mt := (0, Y_83, prog_2_method_7_code, 4, (Option.some FieldType.boolean), 0, 0, L_83)
def Y_84 : MethodName := ⟨"ParserProof$Automaton", "findOrAdd", "([I)I"⟩
def M_84 : ab_Mt := (0, Y_84, prog_2_method_8_code, 3, (Option.some FieldType.int), 2, 60, L_84)
def Y_85 : MethodName := ⟨"ParserProof$Builder", "makeCanonical", "()Z"⟩
def M_85 : ab_Mt := (1, Y_85, prog_3_method_2_code, 2, (Option.some FieldType.boolean), 5, 118, L_85)
def Y_86 : MethodName := ⟨"ParserProof$Builder", "makeGoes", "(I)Z"⟩
def M_86 : ab_Mt := (1, Y_86, prog_3_method_3_code, 4, (Option.some FieldType.boolean), 4, 95, L_86)
def Y_87 : MethodName := ⟨"ParserProof$Builder", "moveOver", "(II)Z"⟩
def M_87 : ab_Mt := (1, Y_87, prog_3_method_4_code, 7, (Option.some FieldType.boolean), 2, 44, L_87)
def Y_88 : MethodName := ⟨"ParserProof$Builder", "close", "()V"⟩
def M_88 : ab_Mt := (1, Y_88, prog_3_method_5_code, 3, (Option.none : Option FieldType), 3, 73, L_88)
def Y_89 : MethodName := ⟨"ParserProof$Builder", "closeOnce", "()Z"⟩
def M_89 : ab_Mt := (1, Y_89, prog_3_method_6_code, 6, (Option.some FieldType.boolean), 2, 48, L_89)
def Y_90 : MethodName := ⟨"ParserProof$Builder", "addRulesOf", "(II)Z"⟩
def M_90 : ab_Mt := (1, Y_90, prog_3_method_7_code, 6, (Option.some FieldType.boolean), 1, 21, L_90)
def Y_91 : MethodName := ⟨"ParserProof$Builder", "makeEnds", "(I)Z"⟩
def M_91 : ab_Mt := (1, Y_91, prog_3_method_8_code, 5, (Option.some FieldType.boolean), 2, 44, L_91)
def Y_92 : MethodName := ⟨"ParserProof$Checker", "forget", "()V"⟩
def M_92 : ab_Mt := (2, Y_92, prog_4_method_2_code, 1, (Option.none : Option FieldType), 1, 24, L_92)
def Y_93 : MethodName := ⟨"ParserProof$Checker", "keep", "(IIII)V"⟩
def M_93 : ab_Mt := (2, Y_93, prog_4_method_3_code, 5, (Option.none : Option FieldType), 0, 0, L_93)
def Y_94 : MethodName := ⟨"ParserProof$Checker", "whereabouts", "(I)I"⟩
def M_94 : ab_Mt := (2, Y_94, prog_4_method_4_code, 2, (Option.some FieldType.int), 0, 0, L_94)
def Y_95 : MethodName := ⟨"ParserProof$Checker", "look", "()I"⟩
def M_95 : ab_Mt := (2, Y_95, prog_4_method_5_code, 2, (Option.some FieldType.int), 6, 145, L_95)
def Y_96 : MethodName := ⟨"ParserProof$Checker", "findsSymbol", "(I)Z"⟩
def M_96 : ab_Mt := (2, Y_96, prog_4_method_6_code, 4, (Option.some FieldType.boolean), 4, 92, L_96)
def Y_97 : MethodName := ⟨"ParserProof$Checker", "findsItem", "(I)Z"⟩
def M_97 : ab_Mt := (2, Y_97, prog_4_method_7_code, 7, (Option.some FieldType.boolean), 5, 119, L_97)
def Y_98 : MethodName := ⟨"ParserProof$Checker", "isWrong", "(IIIII)Z"⟩
def M_98 : ab_Mt := (2, Y_98, prog_4_method_8_code, 7, (Option.some FieldType.boolean), 4, 93, L_98)
def Y_99 : MethodName := ⟨"ParserProof$Checker", "isForeign", "(II)Z"⟩
def M_99 : ab_Mt := (2, Y_99, prog_4_method_9_code, 8, (Option.some FieldType.boolean), 2, 44, L_99)
def Y_100 : MethodName := ⟨"ParserProof$Checker", "isBold", "(II)Z"⟩
def M_100 : ab_Mt := (2, Y_100, prog_4_method_10_code, 5, (Option.some FieldType.boolean), 3, 68, L_100)
def Y_101 : MethodName := ⟨"ParserProof$Checker", "isOpen", "(IIII)Z"⟩
def M_101 : ab_Mt := (2, Y_101, prog_4_method_11_code, 8, (Option.some FieldType.boolean), 2, 48, L_101)
def Y_102 : MethodName := ⟨"ParserProof$Checker", "isLazy", "(IIII)Z"⟩
def M_102 : ab_Mt := (2, Y_102, prog_4_method_12_code, 6, (Option.some FieldType.boolean), 3, 68, L_102)
def Y_103 : MethodName := ⟨"ParserProof$Checker", "isShy", "(III)Z"⟩
def M_103 : ab_Mt := (2, Y_103, prog_4_method_13_code, 5, (Option.some FieldType.boolean), 1, 22, L_103)
def Y_104 : MethodName := ⟨"ParserProof$Grammar", "codedLength", "(I)I"⟩
def M_104 : ab_Mt := (3, Y_104, prog_5_method_2_code, 1, (Option.some FieldType.int), 0, 0, L_104)
def Y_105 : MethodName := ⟨"ParserProof$Grammar", "codedSymbol", "(II)I"⟩
def M_105 : ab_Mt := (3, Y_105, prog_5_method_3_code, 2, (Option.some FieldType.int), 0, 0, L_105)
def Y_106 : MethodName := ⟨"ParserProof$Grammar", "isCodedRule", "(I)Z"⟩
def M_106 : ab_Mt := (3, Y_106, prog_5_method_4_code, 3, (Option.some FieldType.boolean), 1, 21, L_106)
def Y_107 : MethodName := ⟨"ParserProof$Grammar", "add", "(I)I"⟩
def M_107 : ab_Mt := (3, Y_107, prog_5_method_5_code, 4, (Option.some FieldType.int), 1, 21, L_107)
def Y_108 : MethodName := ⟨"ParserProof$Grammar", "removeAll", "()V"⟩
def M_108 : ab_Mt := (3, Y_108, prog_5_method_6_code, 1, (Option.none : Option FieldType), 0, 0, L_108)
def Y_109 : MethodName := ⟨"ParserProof$Grammar", "top", "()I"⟩
def M_109 : ab_Mt := (3, Y_109, prog_5_method_7_code, 1, (Option.some FieldType.int), 0, 0, L_109)
def Y_110 : MethodName := ⟨"ParserProof$Grammar", "start", "()I"⟩
def M_110 : ab_Mt := (3, Y_110, prog_5_method_8_code, 1, (Option.some FieldType.int), 0, 0, L_110)
def Y_111 : MethodName := ⟨"ParserProof$Grammar", "symbolAt", "(II)I"⟩
def M_111 : ab_Mt := (3, Y_111, prog_5_method_9_code, 3, (Option.some FieldType.int), 0, 0, L_111)
def Y_112 : MethodName := ⟨"ParserProof$Grammar", "isNullable", "(I)Z"⟩
def M_112 : ab_Mt := (3, Y_112, prog_5_method_10_code, 4, (Option.some FieldType.boolean), 1, 22, L_112)
def Y_113 : MethodName := ⟨"ParserProof$Grammar", "firstOf", "(III)I"⟩
def M_113 : ab_Mt := (3, Y_113, prog_5_method_11_code, 7, (Option.some FieldType.int), 1, 22, L_113)
def Y_114 : MethodName := ⟨"ParserProof$Grammar", "learn", "()V"⟩
def M_114 : ab_Mt := (3, Y_114, prog_5_method_12_code, 3, (Option.none : Option FieldType), 2, 48, L_114)
def Y_115 : MethodName := ⟨"ParserProof$Parser", "append", "(I)I"⟩
def M_115 : ab_Mt := (4, Y_115, prog_6_method_2_code, 2, (Option.some FieldType.int), 0, 0, L_115)
def Y_116 : MethodName := ⟨"ParserProof$Parser", "forget", "()V"⟩
def M_116 : ab_Mt := (4, Y_116, prog_6_method_3_code, 1, (Option.none : Option FieldType), 0, 0, L_116)
def Y_117 : MethodName := ⟨"ParserProof$Parser", "nodeField", "(II)I"⟩
def M_117 : ab_Mt := (4, Y_117, prog_6_method_4_code, 3, (Option.some FieldType.int), 0, 0, L_117)
def Y_118 : MethodName := ⟨"ParserProof$Parser", "run", "(I)I"⟩
def M_118 : ab_Mt := (4, Y_118, prog_6_method_5_code, 4, (Option.some FieldType.int), 4, 96, L_118)
def Y_119 : MethodName := ⟨"ParserProof$Parser", "takeStep", "()I"⟩
def M_119 : ab_Mt := (4, Y_119, prog_6_method_6_code, 3, (Option.some FieldType.int), 3, 74, L_119)
def Y_120 : MethodName := ⟨"ParserProof$Parser", "shift", "(II)I"⟩
def M_120 : ab_Mt := (4, Y_120, prog_6_method_7_code, 3, (Option.some FieldType.int), 1, 25, L_120)
def Y_121 : MethodName := ⟨"ParserProof$Parser", "reduce", "(I)I"⟩
def M_121 : ab_Mt := (4, Y_121, prog_6_method_8_code, 5, (Option.some FieldType.int), 2, 50, L_121)
def Y_122 : MethodName := ⟨"ParserProof$Parser", "isRowOnStack", "(I)Z"⟩
def M_122 : ab_Mt := (4, Y_122, prog_6_method_9_code, 5, (Option.some FieldType.boolean), 1, 22, L_122)
def Y_123 : MethodName := ⟨"ParserProof$Parser", "addParent", "(II)I"⟩
def M_123 : ab_Mt := (4, Y_123, prog_6_method_10_code, 6, (Option.some FieldType.int), 1, 25, L_123)
def Y_124 : MethodName := ⟨"ParserProof$Parser", "addNode", "(IIII)I"⟩
def M_124 : ab_Mt := (4, Y_124, prog_6_method_11_code, 6, (Option.some FieldType.int), 0, 0, L_124)
def Y_125 : MethodName := ⟨"ParserProof$Parser", "push", "(II)V"⟩
def M_125 : ab_Mt := (4, Y_125, prog_6_method_12_code, 3, (Option.none : Option FieldType), 0, 0, L_125)
def Y_126 : MethodName := ⟨"ParserProof$Parser", "isStartAlone", "()Z"⟩
def M_126 : ab_Mt := (4, Y_126, prog_6_method_13_code, 1, (Option.some FieldType.boolean), 1, 22, L_126)
def Y_127 : MethodName := ⟨"ParserProofLaw", "rule", "(LParserProof;I[J)I"⟩
def M_127 : ab_Mt := (7, Y_127, method_3_code, 4, (Option.some FieldType.int), 7, 111, L_127)
def Y_128 : MethodName := ⟨"ParserProofLaw", "build", "(LParserProof;[J)I"⟩
def M_128 : ab_Mt := (7, Y_128, method_4_code, 3, (Option.some FieldType.int), 7, 159, L_128)
def Y_129 : MethodName := ⟨"ParserProofLaw", "entry", "(LParserProof;II[J)I"⟩
def M_129 : ab_Mt := (7, Y_129, method_5_code, 5, (Option.some FieldType.int), 9, 155, L_129)
def Y_130 : MethodName := ⟨"ParserProofLaw", "set", "(LParserProof;III)I"⟩
def M_130 : ab_Mt := (7, Y_130, method_6_code, 5, (Option.some FieldType.int), 9, 156, L_130)
def Y_131 : MethodName := ⟨"ParserProofLaw", "has", "(LParserProof;IIII[J)I"⟩
def M_131 : ab_Mt := (7, Y_131, method_7_code, 7, (Option.some FieldType.int), 9, 159, L_131)
def Y_132 : MethodName := ⟨"ParserProofLaw", "turn", "(LParserProof;IIII[J)I"⟩
def M_132 : ab_Mt := (7, Y_132, method_8_code, 7, (Option.some FieldType.int), 9, 159, L_132)
def Y_133 : MethodName := ⟨"ParserProofLaw", "check", "(LParserProof;[J)I"⟩
def M_133 : ab_Mt := (7, Y_133, method_9_code, 3, (Option.some FieldType.int), 8, 186, L_133)
def Y_134 : MethodName := ⟨"ParserProofLaw", "parse", "(LParserProof;I[J)I"⟩
def M_134 : ab_Mt := (7, Y_134, method_10_code, 4, (Option.some FieldType.int), 8, 140, L_134)
def Y_135 : MethodName := ⟨"ParserProofLaw", "node", "(LParserProof;II[J)I"⟩
def M_135 : ab_Mt := (7, Y_135, method_11_code, 5, (Option.some FieldType.int), 7, 112, L_135)
def Y_136 : MethodName := ⟨"ParserProofLaw", "law", "([I)Z"⟩
def M_136 : ab_Mt := (7, Y_136, code, 7, (Option.some FieldType.boolean), 12, 440, L_136)
def Y_137 : MethodName := ⟨"java/util/Arrays", "fill", "([II)V"⟩
def M_137 : ab_Mt := (8, Y_137, prog_18_method_103_code, 4, (Option.none : Option FieldType), 0, 0, L_137)
def ab_Ms : List ab_Mt := [M_0, M_1, M_2, M_3, M_4, M_5, M_6, M_7, M_8, M_9, M_10, M_11, M_12, M_13, M_14, M_15, M_16, M_17, M_18, M_19, M_20, M_21, M_22, M_23, M_24, M_25, M_26, M_27, M_28, M_29, M_30, M_31, M_32, M_33, M_34, M_35, M_36, M_37, M_38, M_39, M_40, M_41, M_42, M_43, M_44, M_45, M_46, M_47, M_48, M_49, M_50, M_51, M_52, M_53, M_54, M_55, M_56, M_57, M_58, M_59, M_60, M_61, M_62, M_63, M_64, M_65, M_66, M_67, M_68, M_69, M_70, M_71, M_72, M_73, M_74, M_75, M_76, M_77, M_78, M_79, M_80, M_81, M_82, M_83, M_84, M_85, M_86, M_87, M_88, M_89, M_90, M_91, M_92, M_93, M_94, M_95, M_96, M_97, M_98, M_99, M_100, M_101, M_102, M_103, M_104, M_105, M_106, M_107, M_108, M_109, M_110, M_111, M_112, M_113, M_114, M_115, M_116, M_117, M_118, M_119, M_120, M_121, M_122, M_123, M_124, M_125, M_126, M_127, M_128, M_129, M_130, M_131, M_132, M_133, M_134, M_135, M_136, M_137]
end
section
/-! What an instruction does to a frame of the pure machine; what a listing must be; the least relation that the rules close. -/
section Wp
/-- how many places an array has; the script's number of ints lies at its place -1 -/
abbrev ab_ln (h : ab_S) (k : Nat) : Int := if k = 38 then h 38 (-1) else (((ab_nd ab_lay k).2.1 : Nat) : Int)
/-- an array's kind: 0 ints, 1 booleans, 2 longs -/
abbrev ab_ty (k : Nat) : Nat := if k = 38 then 0 else (ab_nd ab_lay k).1
/-- a field that holds a boolean -/
def ab_zf (c f : Nat) : Bool := c == 6 && f == 19
/-- an instruction that goes on to the next one -/
def ab_w1 (t : ab_I) (ls st : List ab_V) (h : ab_S) (K : List ab_V → List ab_V → ab_S → Prop) : Prop :=
  match t.2.1 with
  | .iconst n => K ls (vI n :: st) h
  | .bipush n => K ls (vI n :: st) h
  | .sipush n => K ls (vI n :: st) h
  | .lconst n => K ls (vJ ((n.val : Nat) : Int) :: st) h
  | .iload_n k => ab_gI (ab_nth ls k.val) fun x => K ls (vI x :: st) h
  | .iload k => ab_gI (ab_nth ls k) fun x => K ls (vI x :: st) h
  | .aload_n k => ab_gR (ab_nth ls k.val) fun r => K ls (vR r :: st) h
  | .aload k => ab_gR (ab_nth ls k) fun r => K ls (vR r :: st) h
  | .istore_n k => ab_pI st fun x t => K (ab_st ls k.val (vI x)) t h
  | .istore k => ab_pI st fun x t => K (ab_st ls k (vI x)) t h
  | .iinc k n => ab_gI (ab_nth ls k) fun x => ab_rg (x + n) ∧ K (ab_st ls k (vI (x + n))) st h
  | .iadd => ab_p2 st fun x y t => ab_rg (x + y) ∧ K ls (vI (x + y) :: t) h
  | .isub => ab_p2 st fun x y t => ab_rg (x - y) ∧ K ls (vI (x - y) :: t) h
  | .imul => ab_p2 st fun x y t => ab_rg (x * y) ∧ K ls (vI (x * y) :: t) h
  | .idiv => ab_p2 st fun x y t => (0 ≤ x ∧ 0 < y) ∧ K ls (vI (x / y) :: t) h
  | .irem => ab_p2 st fun x y t => (0 ≤ x ∧ 0 < y) ∧ K ls (vI (x % y) :: t) h
  | .iand => ab_p2 st fun x y t => K ls (vI (b_and x y) :: t) h
  | .ior => ab_p2 st fun x y t => K ls (vI (b_or x y) :: t) h
  | .ixor => ab_p2 st fun x y t => K ls (vI (b_xor x y) :: t) h
  | .ishl => ab_p2 st fun x y t => K ls (vI (b_shl x y) :: t) h
  | .ishr => ab_p2 st fun x y t => K ls (vI (b_shr x y) :: t) h
  | .iushr => ab_p2 st fun x y t => K ls (vI (b_ushr x y) :: t) h
  | .i2l => ab_pI st fun x t => K ls (vJ x :: t) h
  | .lcmp => ab_pJ st fun y t => ab_pJ t fun x t => K ls (vI (ab_lc x y) :: t) h
  | .dup => ab_p1 st fun v t => K ls (v :: v :: t) h
  | .dup2 => ab_p1 st fun v t => ab_p1 t fun w t => K ls (v :: w :: v :: w :: t) h
  | .pop => ab_p1 st fun _ t => K ls t h
  | .arraylength => ab_pR st fun k t => k < 39 ∧ ab_ty k < 3 ∧ K ls (vI (ab_ln h k) :: t) h
  | .iaload => ab_pI st fun i t => ab_pR t fun k t => if ab_ty k = 0 then (0 ≤ i ∧ i < ab_ln h k) ∧ K ls (vI (h k i) :: t) h else False
  | .baload => ab_pI st fun i t => ab_pR t fun k t => if ab_ty k = 1 then (0 ≤ i ∧ i < ab_ln h k) ∧ K ls (vI (h k i) :: t) h else False
  | .laload => ab_pI st fun i t => ab_pR t fun k t => if ab_ty k = 2 then (0 ≤ i ∧ i < ab_ln h k) ∧ K ls (vJ (h k i) :: t) h else False
  | .iastore => ab_pI st fun x t => ab_pI t fun i t => ab_pR t fun k t => if ab_ty k = 0 then (if k = 38 then False else (0 ≤ i ∧ i < ab_ln h k) ∧ K ls t (ab_up h k i x)) else False
  | .bastore => ab_pI st fun x t => ab_pI t fun i t => ab_pR t fun k t => if ab_ty k = 1 then (0 ≤ i ∧ i < ab_ln h k) ∧ (x = 0 ∨ x = 1) ∧ K ls t (ab_up h k i x) else False
  | .lastore => ab_pJ st fun x t => ab_pI t fun i t => ab_pR t fun k t => if ab_ty k = 2 then (0 ≤ i ∧ i < ab_ln h k) ∧ ab_rg x ∧ K ls t (ab_up h k i x) else False
  | .getfield _ => ab_pR st fun k st => if (ab_nd ab_lay k).1 = 3 then (if (ab_nd ab_lay k).2.1 = t.2.2.2.1 then (match ab_nf (ab_nd ab_lay k).2.2 t.2.2.2.2 with
      | some (some r) => K ls (vR r :: st) h
      | some none => K ls (vI (h k ((t.2.2.2.2 : Nat) : Int)) :: st) h
      | none => False) else False) else False
  | .putfield _ => ab_pI st fun x st => ab_pR st fun k st => if (ab_nd ab_lay k).1 = 3 then (if (ab_nd ab_lay k).2.1 = t.2.2.2.1 then (match ab_nf (ab_nd ab_lay k).2.2 t.2.2.2.2 with
      | some none => if ab_zf t.2.2.2.1 t.2.2.2.2 = true then (x = 0 ∨ x = 1) ∧ K ls st (ab_up h k ((t.2.2.2.2 : Nat) : Int) x) else K ls st (ab_up h k ((t.2.2.2.2 : Nat) : Int) x)
      | _ => False) else False) else False
  | _ => False
/-- a stretch of such instructions -/
def ab_bw (K : List ab_V → List ab_V → ab_S → Prop) : List ab_I → List ab_V → List ab_V → ab_S → Prop
  | [], ls, st, h => K ls st h
  | t :: ts, ls, st, h => ab_w1 t ls st h (fun ls1 st1 h1 => ab_bw K ts ls1 st1 h1)
/-- what a listing's row must be -/
def ab_c1 (own ml : Nat) (L : List ab_I) (t : ab_I) : Bool := match t.2.1 with
  | .bipush n => decide (-128 ≤ n) && decide (n ≤ 127)
  | .sipush n => decide (-32768 ≤ n) && decide (n ≤ 32767)
  | .iconst n => decide (-1 ≤ n) && decide (n ≤ 5)
  | .istore_n k => decide (k.val < ml)
  | .istore k => decide (k < ml)
  | .iinc k n => decide (k < ml) && decide (-128 ≤ n) && decide (n ≤ 127)
  | .goto off => decide ((L[t.2.2.2.1]?).map (fun q => (q.1 : Int)) = some ((t.1 : Int) + off))
  | .ifCond _ off => decide ((L[t.2.2.2.1]?).map (fun q => (q.1 : Int)) = some ((t.1 : Int) + off))
  | .if_icmp _ off => decide ((L[t.2.2.2.1]?).map (fun q => (q.1 : Int)) = some ((t.1 : Int) + off))
  | .tableswitch off _ _ _ => decide ((L[t.2.2.2.1]?).map (fun q => (q.1 : Int)) = some ((t.1 : Int) + off))
  | .getfield k => decide ((own, k, t.2.2.2.1, t.2.2.2.2) ∈ ab_FT)
  | .putfield k => decide ((own, k, t.2.2.2.1, t.2.2.2.2) ∈ ab_FT)
  | .invokevirtual k => decide ((own, 0, k, t.2.2.2.1) ∈ ab_CT)
  | .invokestatic k => decide (t.2.2.2.1 = 9999) || decide ((own, 1, k, t.2.2.2.1) ∈ ab_CT) || decide ((own, 2, k, t.2.2.2.1) ∈ ab_CT)
  | _ => true
def ab_chain : List ab_I → Bool
  | [] => true
  | [_] => true
  | t :: u :: r => decide (u.1 = t.1 + t.2.2.1) && ab_chain (u :: r)
def ab_chk (m : ab_Mt) : Bool := (m.2.2.2.2.2.2.2.all fun t => decide (decode m.2.2.1 t.1 = .ok (t.2.1, t.2.2.1)) && ab_c1 m.1 m.2.2.2.1 m.2.2.2.2.2.2.2 t) && ab_chain m.2.2.2.2.2.2.2
end Wp
end
section
/-! By program: every listing is what the bytes say (the law's own: part 07). -/
set_option maxRecDepth 100000 in
theorem ck_0 : ab_chk M_0 = true := by decide +kernel
set_option maxRecDepth 100000 in
theorem ck_1 : ab_chk M_1 = true := by decide +kernel
set_option maxRecDepth 100000 in
theorem ck_2 : ab_chk M_2 = true := by decide +kernel
set_option maxRecDepth 100000 in
theorem ck_3 : ab_chk M_3 = true := by decide +kernel
set_option maxRecDepth 100000 in
theorem ck_4 : ab_chk M_4 = true := by decide +kernel
set_option maxRecDepth 100000 in
theorem ck_5 : ab_chk M_5 = true := by decide +kernel
set_option maxRecDepth 100000 in
theorem ck_6 : ab_chk M_6 = true := by decide +kernel
set_option maxRecDepth 100000 in
theorem ck_7 : ab_chk M_7 = true := by decide +kernel
set_option maxRecDepth 100000 in
theorem ck_8 : ab_chk M_8 = true := by decide +kernel
set_option maxRecDepth 100000 in
theorem ck_9 : ab_chk M_9 = true := by decide +kernel
set_option maxRecDepth 100000 in
theorem ck_10 : ab_chk M_10 = true := by decide +kernel
set_option maxRecDepth 100000 in
theorem ck_11 : ab_chk M_11 = true := by decide +kernel
set_option maxRecDepth 100000 in
theorem ck_12 : ab_chk M_12 = true := by decide +kernel
set_option maxRecDepth 100000 in
theorem ck_13 : ab_chk M_13 = true := by decide +kernel
set_option maxRecDepth 100000 in
theorem ck_14 : ab_chk M_14 = true := by decide +kernel
set_option maxRecDepth 100000 in
theorem ck_15 : ab_chk M_15 = true := by decide +kernel
set_option maxRecDepth 100000 in
theorem ck_16 : ab_chk M_16 = true := by decide +kernel
set_option maxRecDepth 100000 in
theorem ck_17 : ab_chk M_17 = true := by decide +kernel
set_option maxRecDepth 100000 in
theorem ck_18 : ab_chk M_18 = true := by decide +kernel
set_option maxRecDepth 100000 in
theorem ck_19 : ab_chk M_19 = true := by decide +kernel
set_option maxRecDepth 100000 in
theorem ck_20 : ab_chk M_20 = true := by decide +kernel
set_option maxRecDepth 100000 in
theorem ck_21 : ab_chk M_21 = true := by decide +kernel
set_option maxRecDepth 100000 in
theorem ck_22 : ab_chk M_22 = true := by decide +kernel
set_option maxRecDepth 100000 in
theorem ck_23 : ab_chk M_23 = true := by decide +kernel
set_option maxRecDepth 100000 in
theorem ck_24 : ab_chk M_24 = true := by decide +kernel
set_option maxRecDepth 100000 in
theorem ck_25 : ab_chk M_25 = true := by decide +kernel
set_option maxRecDepth 100000 in
theorem ck_26 : ab_chk M_26 = true := by decide +kernel
set_option maxRecDepth 100000 in
theorem ck_27 : ab_chk M_27 = true := by decide +kernel
set_option maxRecDepth 100000 in
theorem ck_28 : ab_chk M_28 = true := by decide +kernel
set_option maxRecDepth 100000 in
theorem ck_29 : ab_chk M_29 = true := by decide +kernel
set_option maxRecDepth 100000 in
theorem ck_30 : ab_chk M_30 = true := by decide +kernel
set_option maxRecDepth 100000 in
theorem ck_31 : ab_chk M_31 = true := by decide +kernel
set_option maxRecDepth 100000 in
theorem ck_32 : ab_chk M_32 = true := by decide +kernel
set_option maxRecDepth 100000 in
theorem ck_33 : ab_chk M_33 = true := by decide +kernel
set_option maxRecDepth 100000 in
theorem ck_34 : ab_chk M_34 = true := by decide +kernel
set_option maxRecDepth 100000 in
theorem ck_35 : ab_chk M_35 = true := by decide +kernel
set_option maxRecDepth 100000 in
theorem ck_36 : ab_chk M_36 = true := by decide +kernel
set_option maxRecDepth 100000 in
theorem ck_37 : ab_chk M_37 = true := by decide +kernel
set_option maxRecDepth 100000 in
theorem ck_38 : ab_chk M_38 = true := by decide +kernel
set_option maxRecDepth 100000 in
theorem ck_39 : ab_chk M_39 = true := by decide +kernel
set_option maxRecDepth 100000 in
theorem ck_40 : ab_chk M_40 = true := by decide +kernel
set_option maxRecDepth 100000 in
theorem ck_41 : ab_chk M_41 = true := by decide +kernel
set_option maxRecDepth 100000 in
theorem ck_42 : ab_chk M_42 = true := by decide +kernel
set_option maxRecDepth 100000 in
theorem ck_43 : ab_chk M_43 = true := by decide +kernel
set_option maxRecDepth 100000 in
theorem ck_44 : ab_chk M_44 = true := by decide +kernel
set_option maxRecDepth 100000 in
theorem ck_45 : ab_chk M_45 = true := by decide +kernel
set_option maxRecDepth 100000 in
theorem ck_46 : ab_chk M_46 = true := by decide +kernel
set_option maxRecDepth 100000 in
theorem ck_47 : ab_chk M_47 = true := by decide +kernel
set_option maxRecDepth 100000 in
theorem ck_48 : ab_chk M_48 = true := by decide +kernel
set_option maxRecDepth 100000 in
theorem ck_49 : ab_chk M_49 = true := by decide +kernel
set_option maxRecDepth 100000 in
theorem ck_50 : ab_chk M_50 = true := by decide +kernel
set_option maxRecDepth 100000 in
theorem ck_51 : ab_chk M_51 = true := by decide +kernel
set_option maxRecDepth 100000 in
theorem ck_52 : ab_chk M_52 = true := by decide +kernel
set_option maxRecDepth 100000 in
theorem ck_53 : ab_chk M_53 = true := by decide +kernel
set_option maxRecDepth 100000 in
theorem ck_54 : ab_chk M_54 = true := by decide +kernel
set_option maxRecDepth 100000 in
theorem ck_55 : ab_chk M_55 = true := by decide +kernel
set_option maxRecDepth 100000 in
theorem ck_56 : ab_chk M_56 = true := by decide +kernel
set_option maxRecDepth 100000 in
theorem ck_57 : ab_chk M_57 = true := by decide +kernel
set_option maxRecDepth 100000 in
theorem ck_58 : ab_chk M_58 = true := by decide +kernel
set_option maxRecDepth 100000 in
theorem ck_59 : ab_chk M_59 = true := by decide +kernel
set_option maxRecDepth 100000 in
theorem ck_60 : ab_chk M_60 = true := by decide +kernel
set_option maxRecDepth 100000 in
theorem ck_61 : ab_chk M_61 = true := by decide +kernel
set_option maxRecDepth 100000 in
theorem ck_62 : ab_chk M_62 = true := by decide +kernel
set_option maxRecDepth 100000 in
theorem ck_63 : ab_chk M_63 = true := by decide +kernel
set_option maxRecDepth 100000 in
theorem ck_64 : ab_chk M_64 = true := by decide +kernel
set_option maxRecDepth 100000 in
theorem ck_65 : ab_chk M_65 = true := by decide +kernel
set_option maxRecDepth 100000 in
theorem ck_66 : ab_chk M_66 = true := by decide +kernel
set_option maxRecDepth 100000 in
theorem ck_67 : ab_chk M_67 = true := by decide +kernel
set_option maxRecDepth 100000 in
theorem ck_68 : ab_chk M_68 = true := by decide +kernel
set_option maxRecDepth 100000 in
theorem ck_69 : ab_chk M_69 = true := by decide +kernel
set_option maxRecDepth 100000 in
theorem ck_70 : ab_chk M_70 = true := by decide +kernel
set_option maxRecDepth 100000 in
theorem ck_71 : ab_chk M_71 = true := by decide +kernel
set_option maxRecDepth 100000 in
theorem ck_72 : ab_chk M_72 = true := by decide +kernel
set_option maxRecDepth 100000 in
theorem ck_73 : ab_chk M_73 = true := by decide +kernel
set_option maxRecDepth 100000 in
theorem ck_74 : ab_chk M_74 = true := by decide +kernel
set_option maxRecDepth 100000 in
theorem ck_75 : ab_chk M_75 = true := by decide +kernel
set_option maxRecDepth 100000 in
theorem ck_76 : ab_chk M_76 = true := by decide +kernel
set_option maxRecDepth 100000 in
theorem ck_77 : ab_chk M_77 = true := by decide +kernel
set_option maxRecDepth 100000 in
theorem ck_78 : ab_chk M_78 = true := by decide +kernel
set_option maxRecDepth 100000 in
theorem ck_79 : ab_chk M_79 = true := by decide +kernel
set_option maxRecDepth 100000 in
theorem ck_80 : ab_chk M_80 = true := by decide +kernel
set_option maxRecDepth 100000 in
theorem ck_81 : ab_chk M_81 = true := by decide +kernel
set_option maxRecDepth 100000 in
theorem ck_82 : ab_chk M_82 = true := by decide +kernel
set_option maxRecDepth 100000 in
theorem ck_83 : ab_chk M_83 = true := by decide +kernel
set_option maxRecDepth 100000 in
theorem ck_84 : ab_chk M_84 = true := by decide +kernel
set_option maxRecDepth 100000 in
theorem ck_85 : ab_chk M_85 = true := by decide +kernel
set_option maxRecDepth 100000 in
theorem ck_86 : ab_chk M_86 = true := by decide +kernel
set_option maxRecDepth 100000 in
theorem ck_87 : ab_chk M_87 = true := by decide +kernel
set_option maxRecDepth 100000 in
theorem ck_88 : ab_chk M_88 = true := by decide +kernel
set_option maxRecDepth 100000 in
theorem ck_89 : ab_chk M_89 = true := by decide +kernel
set_option maxRecDepth 100000 in
theorem ck_90 : ab_chk M_90 = true := by decide +kernel
set_option maxRecDepth 100000 in
theorem ck_91 : ab_chk M_91 = true := by decide +kernel
set_option maxRecDepth 100000 in
theorem ck_92 : ab_chk M_92 = true := by decide +kernel
set_option maxRecDepth 100000 in
theorem ck_93 : ab_chk M_93 = true := by decide +kernel
set_option maxRecDepth 100000 in
theorem ck_94 : ab_chk M_94 = true := by decide +kernel
set_option maxRecDepth 100000 in
theorem ck_95 : ab_chk M_95 = true := by decide +kernel
set_option maxRecDepth 100000 in
theorem ck_96 : ab_chk M_96 = true := by decide +kernel
set_option maxRecDepth 100000 in
theorem ck_97 : ab_chk M_97 = true := by decide +kernel
set_option maxRecDepth 100000 in
theorem ck_98 : ab_chk M_98 = true := by decide +kernel
set_option maxRecDepth 100000 in
theorem ck_99 : ab_chk M_99 = true := by decide +kernel
set_option maxRecDepth 100000 in
theorem ck_100 : ab_chk M_100 = true := by decide +kernel
set_option maxRecDepth 100000 in
theorem ck_101 : ab_chk M_101 = true := by decide +kernel
set_option maxRecDepth 100000 in
theorem ck_102 : ab_chk M_102 = true := by decide +kernel
set_option maxRecDepth 100000 in
theorem ck_103 : ab_chk M_103 = true := by decide +kernel
set_option maxRecDepth 100000 in
theorem ck_104 : ab_chk M_104 = true := by decide +kernel
set_option maxRecDepth 100000 in
theorem ck_105 : ab_chk M_105 = true := by decide +kernel
set_option maxRecDepth 100000 in
theorem ck_106 : ab_chk M_106 = true := by decide +kernel
set_option maxRecDepth 100000 in
theorem ck_107 : ab_chk M_107 = true := by decide +kernel
set_option maxRecDepth 100000 in
theorem ck_108 : ab_chk M_108 = true := by decide +kernel
set_option maxRecDepth 100000 in
theorem ck_109 : ab_chk M_109 = true := by decide +kernel
set_option maxRecDepth 100000 in
theorem ck_110 : ab_chk M_110 = true := by decide +kernel
set_option maxRecDepth 100000 in
theorem ck_111 : ab_chk M_111 = true := by decide +kernel
set_option maxRecDepth 100000 in
theorem ck_112 : ab_chk M_112 = true := by decide +kernel
set_option maxRecDepth 100000 in
theorem ck_113 : ab_chk M_113 = true := by decide +kernel
set_option maxRecDepth 100000 in
theorem ck_114 : ab_chk M_114 = true := by decide +kernel
set_option maxRecDepth 100000 in
theorem ck_115 : ab_chk M_115 = true := by decide +kernel
set_option maxRecDepth 100000 in
theorem ck_116 : ab_chk M_116 = true := by decide +kernel
set_option maxRecDepth 100000 in
theorem ck_117 : ab_chk M_117 = true := by decide +kernel
set_option maxRecDepth 100000 in
theorem ck_118 : ab_chk M_118 = true := by decide +kernel
set_option maxRecDepth 100000 in
theorem ck_119 : ab_chk M_119 = true := by decide +kernel
set_option maxRecDepth 100000 in
theorem ck_120 : ab_chk M_120 = true := by decide +kernel
set_option maxRecDepth 100000 in
theorem ck_121 : ab_chk M_121 = true := by decide +kernel
set_option maxRecDepth 100000 in
theorem ck_122 : ab_chk M_122 = true := by decide +kernel
set_option maxRecDepth 100000 in
theorem ck_123 : ab_chk M_123 = true := by decide +kernel
set_option maxRecDepth 100000 in
theorem ck_124 : ab_chk M_124 = true := by decide +kernel
set_option maxRecDepth 100000 in
theorem ck_125 : ab_chk M_125 = true := by decide +kernel
set_option maxRecDepth 100000 in
theorem ck_126 : ab_chk M_126 = true := by decide +kernel
set_option maxRecDepth 100000 in
theorem ck_127 : ab_chk M_127 = true := by decide +kernel
set_option maxRecDepth 100000 in
theorem ck_128 : ab_chk M_128 = true := by decide +kernel
set_option maxRecDepth 100000 in
theorem ck_129 : ab_chk M_129 = true := by decide +kernel
set_option maxRecDepth 100000 in
theorem ck_130 : ab_chk M_130 = true := by decide +kernel
set_option maxRecDepth 100000 in
theorem ck_131 : ab_chk M_131 = true := by decide +kernel
set_option maxRecDepth 100000 in
theorem ck_132 : ab_chk M_132 = true := by decide +kernel
set_option maxRecDepth 100000 in
theorem ck_133 : ab_chk M_133 = true := by decide +kernel
set_option maxRecDepth 100000 in
theorem ck_134 : ab_chk M_134 = true := by decide +kernel
set_option maxRecDepth 100000 in
theorem ck_135 : ab_chk M_135 = true := by decide +kernel
set_option maxRecDepth 100000 in
theorem ck_137 : ab_chk M_137 = true := by decide +kernel
end
section
/-! By program: the law's listing is what the bytes say, in stretches. -/
def ab_chS (m : ab_Mt) (a n : Nat) : Bool := ((m.2.2.2.2.2.2.2.drop a).take n).all fun t => decide (decode m.2.2.1 t.1 = .ok (t.2.1, t.2.2.1)) && ab_c1 m.1 m.2.2.2.1 m.2.2.2.2.2.2.2 t
set_option maxRecDepth 100000 in
theorem cl_0 : ab_chS M_136 0 40 = true := by decide +kernel
set_option maxRecDepth 100000 in
theorem cl_40 : ab_chS M_136 40 40 = true := by decide +kernel
set_option maxRecDepth 100000 in
theorem cl_80 : ab_chS M_136 80 40 = true := by decide +kernel
set_option maxRecDepth 100000 in
theorem cl_120 : ab_chS M_136 120 40 = true := by decide +kernel
set_option maxRecDepth 100000 in
theorem cl_160 : ab_chS M_136 160 40 = true := by decide +kernel
set_option maxRecDepth 100000 in
theorem cl_200 : ab_chS M_136 200 40 = true := by decide +kernel
set_option maxRecDepth 100000 in
theorem cl_240 : ab_chS M_136 240 40 = true := by decide +kernel
set_option maxRecDepth 100000 in
theorem cl_280 : ab_chS M_136 280 40 = true := by decide +kernel
set_option maxRecDepth 100000 in
theorem cl_320 : ab_chS M_136 320 40 = true := by decide +kernel
set_option maxRecDepth 100000 in
theorem cl_360 : ab_chS M_136 360 40 = true := by decide +kernel
set_option maxRecDepth 100000 in
theorem cl_400 : ab_chS M_136 400 40 = true := by decide +kernel
set_option maxRecDepth 100000 in
theorem cl_440 : ab_chS M_136 440 40 = true := by decide +kernel
set_option maxRecDepth 100000 in
theorem cl_480 : ab_chS M_136 480 40 = true := by decide +kernel
set_option maxRecDepth 100000 in
theorem cl_c : ab_chain L_136 = true := by decide +kernel
end
section
/-! An instruction of the pure machine has one way on. -/
section Det
theorem ab_gI_of {v : ab_V} {f : Int → Prop} (h : ab_gI v f) : ∃ x, v = vI x ∧ f x := by
  rcases v with x | k | x
  · exact ⟨x, rfl, h⟩
  · exact h.elim
  · exact h.elim
theorem ab_gR_of {v : ab_V} {f : Nat → Prop} (h : ab_gR v f) : ∃ k, v = vR k ∧ f k := by
  rcases v with x | k | x
  · exact h.elim
  · exact ⟨k, rfl, h⟩
  · exact h.elim
theorem ab_p1_of {st : List ab_V} {f : ab_V → List ab_V → Prop} (h : ab_p1 st f) : ∃ v t, st = v :: t ∧ (∀ x, v ≠ vJ x) ∧ f v t := by
  rcases st with _ | ⟨x | k | x, t⟩
  · exact h.elim
  · exact ⟨_, t, rfl, (fun _ e => nomatch e), h⟩
  · exact ⟨_, t, rfl, (fun _ e => by cases e), h⟩
  · exact h.elim
theorem ab_p1_to {v : ab_V} {t : List ab_V} {f : ab_V → List ab_V → Prop} (hv : ∀ x, v ≠ vJ x) (h : f v t) : ab_p1 (v :: t) f := by
  rcases v with x | k | x
  · exact h
  · exact h
  · exact absurd rfl (hv x)
theorem ab_pI_of {st : List ab_V} {f : Int → List ab_V → Prop} (h : ab_pI st f) : ∃ x t, st = vI x :: t ∧ f x t := by
  rcases st with _ | ⟨x | k | x, t⟩
  · exact h.elim
  · exact ⟨x, t, rfl, h⟩
  · exact h.elim
  · exact h.elim
theorem ab_pJ_of {st : List ab_V} {f : Int → List ab_V → Prop} (h : ab_pJ st f) : ∃ x t, st = vJ x :: t ∧ f x t := by
  rcases st with _ | ⟨x | k | x, t⟩
  · exact h.elim
  · exact h.elim
  · exact h.elim
  · exact ⟨x, t, rfl, h⟩
theorem ab_pR_of {st : List ab_V} {f : Nat → List ab_V → Prop} (h : ab_pR st f) : ∃ k t, st = vR k :: t ∧ f k t := by
  rcases st with _ | ⟨x | k | x, t⟩
  · exact h.elim
  · exact h.elim
  · exact ⟨k, t, rfl, h⟩
  · exact h.elim
theorem ab_p2_of {st : List ab_V} {f : Int → Int → List ab_V → Prop} (h : ab_p2 st f) : ∃ x y t, st = vI y :: vI x :: t ∧ f x y t := by
  rcases st with _ | ⟨y | k | y, _ | ⟨x | k | x, t⟩⟩
  · exact h.elim
  · exact h.elim
  · exact ⟨x, y, t, rfl, h⟩
  · exact h.elim
  · exact h.elim
  · exact h.elim
  · exact h.elim
  · exact h.elim
  · exact h.elim
  · exact h.elim
  · exact h.elim
  · exact h.elim
  · exact h.elim
theorem ab_if_of {c : Prop} [Decidable c] {P : Prop} (h : if c then P else False) : c ∧ P := by
  by_cases hc : c
  · rw [if_pos hc] at h
    exact ⟨hc, h⟩
  · rw [if_neg hc] at h
    exact h.elim
theorem ab_ifn_of {c : Prop} [Decidable c] {P : Prop} (h : if c then False else P) : ¬ c ∧ P := by
  by_cases hc : c
  · rw [if_pos hc] at h
    exact h.elim
  · rw [if_neg hc] at h
    exact ⟨hc, h⟩
theorem ab_w1_det {t : ab_I} {ls st : List ab_V} {h : ab_S} {K : List ab_V → List ab_V → ab_S → Prop} (H : ab_w1 t ls st h K) :
    ∃ ls1 st1 h1, K ls1 st1 h1 ∧ ∀ K' : List ab_V → List ab_V → ab_S → Prop, K' ls1 st1 h1 → ab_w1 t ls st h K' := by
  obtain ⟨pc, ins, len, x1, x2⟩ := t
  cases ins
  case iconst n => exact ⟨_, _, _, H, fun _ k => k⟩
  case bipush n => exact ⟨_, _, _, H, fun _ k => k⟩
  case sipush n => exact ⟨_, _, _, H, fun _ k => k⟩
  case lconst n => exact ⟨_, _, _, H, fun _ k => k⟩
  case iload_n k =>
    obtain ⟨x, e, H⟩ := ab_gI_of H
    exact ⟨_, _, _, H, fun _ k => by show ab_gI _ _; rw [e]; exact k⟩
  case iload k =>
    obtain ⟨x, e, H⟩ := ab_gI_of H
    exact ⟨_, _, _, H, fun _ k => by show ab_gI _ _; rw [e]; exact k⟩
  case aload_n k =>
    obtain ⟨x, e, H⟩ := ab_gR_of H
    exact ⟨_, _, _, H, fun _ k => by show ab_gR _ _; rw [e]; exact k⟩
  case aload k =>
    obtain ⟨x, e, H⟩ := ab_gR_of H
    exact ⟨_, _, _, H, fun _ k => by show ab_gR _ _; rw [e]; exact k⟩
  case istore_n k =>
    obtain ⟨x, t, rfl, H⟩ := ab_pI_of H
    exact ⟨_, _, _, H, fun _ k => k⟩
  case istore k =>
    obtain ⟨x, t, rfl, H⟩ := ab_pI_of H
    exact ⟨_, _, _, H, fun _ k => k⟩
  case iinc k n =>
    obtain ⟨x, e, H⟩ := ab_gI_of H
    exact ⟨_, _, _, H.2, fun _ k => by show ab_gI _ _; rw [e]; exact ⟨H.1, k⟩⟩
  case iadd =>
    obtain ⟨x, y, t, rfl, H⟩ := ab_p2_of H
    exact ⟨_, _, _, H.2, fun _ k => ⟨H.1, k⟩⟩
  case isub =>
    obtain ⟨x, y, t, rfl, H⟩ := ab_p2_of H
    exact ⟨_, _, _, H.2, fun _ k => ⟨H.1, k⟩⟩
  case imul =>
    obtain ⟨x, y, t, rfl, H⟩ := ab_p2_of H
    exact ⟨_, _, _, H.2, fun _ k => ⟨H.1, k⟩⟩
  case idiv =>
    obtain ⟨x, y, t, rfl, H⟩ := ab_p2_of H
    exact ⟨_, _, _, H.2, fun _ k => ⟨H.1, k⟩⟩
  case irem =>
    obtain ⟨x, y, t, rfl, H⟩ := ab_p2_of H
    exact ⟨_, _, _, H.2, fun _ k => ⟨H.1, k⟩⟩
  case iand =>
    obtain ⟨x, y, t, rfl, H⟩ := ab_p2_of H
    exact ⟨_, _, _, H, fun _ k => k⟩
  case ior =>
    obtain ⟨x, y, t, rfl, H⟩ := ab_p2_of H
    exact ⟨_, _, _, H, fun _ k => k⟩
  case ixor =>
    obtain ⟨x, y, t, rfl, H⟩ := ab_p2_of H
    exact ⟨_, _, _, H, fun _ k => k⟩
  case ishl =>
    obtain ⟨x, y, t, rfl, H⟩ := ab_p2_of H
    exact ⟨_, _, _, H, fun _ k => k⟩
  case ishr =>
    obtain ⟨x, y, t, rfl, H⟩ := ab_p2_of H
    exact ⟨_, _, _, H, fun _ k => k⟩
  case iushr =>
    obtain ⟨x, y, t, rfl, H⟩ := ab_p2_of H
    exact ⟨_, _, _, H, fun _ k => k⟩
  case i2l =>
    obtain ⟨x, t, rfl, H⟩ := ab_pI_of H
    exact ⟨_, _, _, H, fun _ k => k⟩
  case lcmp =>
    obtain ⟨y, t, rfl, H⟩ := ab_pJ_of H
    obtain ⟨x, t, rfl, H⟩ := ab_pJ_of H
    exact ⟨_, _, _, H, fun _ k => k⟩
  case dup =>
    obtain ⟨v, t, rfl, hv, H⟩ := ab_p1_of (f := fun v t => K ls (v :: v :: t) h) H
    exact ⟨_, _, _, H, fun K' k => ab_p1_to (f := fun v t => K' ls (v :: v :: t) h) hv k⟩
  case dup2 =>
    obtain ⟨v, t, rfl, hv, H⟩ := ab_p1_of (f := fun v t => ab_p1 t fun w t => K ls (v :: w :: v :: w :: t) h) H
    obtain ⟨w, t, rfl, hw, H⟩ := ab_p1_of (f := fun w t => K ls (v :: w :: v :: w :: t) h) H
    exact ⟨_, _, _, H, fun K' k => ab_p1_to (f := fun v t => ab_p1 t fun w t => K' ls (v :: w :: v :: w :: t) h) hv (ab_p1_to (f := fun w t => K' ls (v :: w :: v :: w :: t) h) hw k)⟩
  case pop =>
    obtain ⟨v, t, rfl, hv, H⟩ := ab_p1_of (f := fun _ t => K ls t h) H
    exact ⟨_, _, _, H, fun K' k => ab_p1_to (f := fun _ t => K' ls t h) hv k⟩
  case arraylength =>
    obtain ⟨r, t, rfl, H⟩ := ab_pR_of H
    exact ⟨_, _, _, H.2.2, fun _ k => ⟨H.1, H.2.1, k⟩⟩
  case iaload =>
    obtain ⟨i, t, rfl, H⟩ := ab_pI_of H
    obtain ⟨r, t, rfl, H⟩ := ab_pR_of H
    obtain ⟨c, H⟩ := ab_if_of H
    exact ⟨_, _, _, H.2, fun _ k => by show ite _ _ _; rw [if_pos c]; exact ⟨H.1, k⟩⟩
  case baload =>
    obtain ⟨i, t, rfl, H⟩ := ab_pI_of H
    obtain ⟨r, t, rfl, H⟩ := ab_pR_of H
    obtain ⟨c, H⟩ := ab_if_of H
    exact ⟨_, _, _, H.2, fun _ k => by show ite _ _ _; rw [if_pos c]; exact ⟨H.1, k⟩⟩
  case laload =>
    obtain ⟨i, t, rfl, H⟩ := ab_pI_of H
    obtain ⟨r, t, rfl, H⟩ := ab_pR_of H
    obtain ⟨c, H⟩ := ab_if_of H
    exact ⟨_, _, _, H.2, fun _ k => by show ite _ _ _; rw [if_pos c]; exact ⟨H.1, k⟩⟩
  case iastore =>
    obtain ⟨x, t, rfl, H⟩ := ab_pI_of H
    obtain ⟨i, t, rfl, H⟩ := ab_pI_of H
    obtain ⟨r, t, rfl, H⟩ := ab_pR_of H
    obtain ⟨c, H⟩ := ab_if_of H
    obtain ⟨c2, H⟩ := ab_ifn_of H
    exact ⟨_, _, _, H.2, fun _ k => by show ite _ _ _; rw [if_pos c, if_neg c2]; exact ⟨H.1, k⟩⟩
  case bastore =>
    obtain ⟨x, t, rfl, H⟩ := ab_pI_of H
    obtain ⟨i, t, rfl, H⟩ := ab_pI_of H
    obtain ⟨r, t, rfl, H⟩ := ab_pR_of H
    obtain ⟨c, H⟩ := ab_if_of H
    exact ⟨_, _, _, H.2.2, fun _ k => by show ite _ _ _; rw [if_pos c]; exact ⟨H.1, H.2.1, k⟩⟩
  case lastore =>
    obtain ⟨x, t, rfl, H⟩ := ab_pJ_of H
    obtain ⟨i, t, rfl, H⟩ := ab_pI_of H
    obtain ⟨r, t, rfl, H⟩ := ab_pR_of H
    obtain ⟨c, H⟩ := ab_if_of H
    exact ⟨_, _, _, H.2.2, fun _ k => by show ite _ _ _; rw [if_pos c]; exact ⟨H.1, H.2.1, k⟩⟩
  case getfield q =>
    obtain ⟨r, t, rfl, H⟩ := ab_pR_of H
    obtain ⟨c, H⟩ := ab_if_of H
    obtain ⟨c2, H⟩ := ab_if_of H
    dsimp only at c c2 H
    cases e : ab_nf (ab_nd ab_lay r).2.2 x2 with
    | none => rw [e] at H; exact H.elim
    | some v =>
      cases v with
      | none =>
        rw [e] at H
        exact ⟨_, _, _, H, fun _ k => by show ite _ _ _; rw [if_pos c, if_pos c2]; dsimp only; rw [e]; exact k⟩
      | some w =>
        rw [e] at H
        exact ⟨_, _, _, H, fun _ k => by show ite _ _ _; rw [if_pos c, if_pos c2]; dsimp only; rw [e]; exact k⟩
  case putfield q =>
    obtain ⟨x, t, rfl, H⟩ := ab_pI_of H
    obtain ⟨r, t, rfl, H⟩ := ab_pR_of H
    obtain ⟨c, H⟩ := ab_if_of H
    obtain ⟨c2, H⟩ := ab_if_of H
    dsimp only at c c2 H
    cases e : ab_nf (ab_nd ab_lay r).2.2 x2 with
    | none => rw [e] at H; exact H.elim
    | some v =>
      cases v with
      | some w => rw [e] at H; exact H.elim
      | none =>
        rw [e] at H
        dsimp only at H
        by_cases z : ab_zf x1 x2 = true
        · rw [if_pos z] at H
          exact ⟨_, _, _, H.2, fun _ k => by show ite _ _ _; rw [if_pos c, if_pos c2]; dsimp only; rw [e]; dsimp only; rw [if_pos z]; exact ⟨H.1, k⟩⟩
        · rw [if_neg z] at H
          exact ⟨_, _, _, H, fun _ k => by show ite _ _ _; rw [if_pos c, if_pos c2]; dsimp only; rw [e]; dsimp only; rw [if_neg z]; exact k⟩
  all_goals exact H.elim
end Det
end
section
/-! The rules of the pure machine, the least relation that they close, and the same in continuation style. -/
section Rules
def ab_mt (i : Nat) : ab_Mt := ab_Ms.getD i M_0
abbrev ab_own (i : Nat) : Nat := (ab_mt i).1
abbrev ab_yn (i : Nat) : MethodName := (ab_mt i).2.1
abbrev ab_bc (i : Nat) : ByteArray := (ab_mt i).2.2.1
abbrev ab_ml (i : Nat) : Nat := (ab_mt i).2.2.2.1
abbrev ab_rt (i : Nat) : Option FieldType := (ab_mt i).2.2.2.2.1
abbrev ab_fr (i : Nat) : Nat := (ab_mt i).2.2.2.2.2.1
abbrev ab_lo (i : Nat) : Nat := (ab_mt i).2.2.2.2.2.2.1
abbrev ab_L (i : Nat) : List ab_I := (ab_mt i).2.2.2.2.2.2.2
/-- how many parameters a method has, its object aside -/
def ab_pnT : List Nat := [1, 0, 0, 0, 2, 3, 4, 4, 0, 1, 1, 0, 1, 0, 2, 0, 0, 0, 1, 2, 4, 3, 1, 1, 1, 1, 1, 2, 0, 1, 0, 4, 1, 0, 0, 1, 2, 1, 3, 0, 4, 3, 4, 1, 0, 0, 0, 2, 1, 0, 0, 1, 1, 2, 3, 3, 4, 4, 2, 4, 5, 1, 2, 2, 1, 0, 1, 1, 0, 4, 1, 1, 1, 0, 1, 0, 2, 0, 2, 3, 3, 4, 4, 2, 1, 0, 1, 2, 0, 0, 2, 1, 0, 4, 1, 0, 1, 1, 5, 2, 2, 4, 4, 3, 1, 2, 1, 1, 0, 0, 0, 2, 1, 3, 0, 1, 0, 2, 1, 0, 2, 1, 1, 2, 4, 2, 0, 3, 2, 4, 4, 6, 6, 2, 3, 4, 1, 2]
def ab_pn (i : Nat) : Nat := ab_pnT.getD i 0
/-- a method with handlers, an exception that it catches, what it then answers -/
def ab_HC : List (Nat × Nat × Int) := [(127, 0, 1), (127, 1, 2), (128, 1, 1), (128, 3, 2), (129, 2, 1), (130, 2, 1), (130, 0, 2), (131, 2, 1), (131, 0, 2), (132, 2, 1), (132, 0, 2), (133, 1, 1), (134, 1, 1), (134, 0, 2), (135, 2, 1), (135, 0, 2)]
def ab_nl (l : List ab_V) : Bool := l.all fun v => match v with
  | Sum.inr (Sum.inr _) => false
  | _ => true
/-- the object of a call is one of that kind -/
def ab_rc (as : List ab_V) (c : Nat) : Bool := match as with
  | Sum.inr (Sum.inl b) :: _ => (ab_nd ab_lay b).1 == 3 && (ab_nd ab_lay b).2.1 == c
  | _ => false
def ab_ent (j : Nat) (as : List ab_V) : List ab_V := as ++ List.replicate (ab_ml j - as.length) (vJ 0)
/-- a call of j with these values on top -/
def ab_cal (i n j : Nat) (as rest : List ab_V) : Prop := ∃ t, (ab_L i)[n]? = some t ∧ t.2.2.2.1 = j ∧ j < 136 + 2 ∧
  ((∃ k, t.2.1 = .invokevirtual k ∧ ab_rc as (ab_own j) = true ∧ as.length = ab_pn j + 1) ∨ (∃ k, t.2.1 = .invokestatic k ∧ as.length = ab_pn j)) ∧
  ab_nl as = true ∧ ab_nl rest = true ∧ rest.length ≤ 8 ∧ ab_fr j + 1 ≤ ab_fr i ∧ 19 + ab_ml j + ab_lo j ≤ ab_lo i
/-- where a switch goes -/
def ab_swt (L : List ab_I) (t : ab_I) (lo hi : Int) (offs : Array Int) (x : Int) : Nat := if x < lo ∨ hi < x then t.2.2.2.1 else L.findIdx (fun q => decide ((q.1 : Int) = (t.1 : Int) + offs.toList.getD (x - lo).toNat 0))
/-- five instructions that throw -/
def ab_thr (i n x : Nat) : Prop := ∃ ik is ic, (ab_own i, ik, is, ic, x) ∈ ab_TH ∧ (((ab_L i).drop n).take 5).map (fun t => t.2.1) = [Instr.new ik, Instr.dup, Instr.ldc is, Instr.invokespecial ic, Instr.athrow] ∧ 6 ≤ ab_fr i ∧ 90 ≤ ab_lo i
abbrev ab_Rel : Type := Nat → Nat → List ab_V → List ab_V → ab_S → ab_O → ab_S → Prop
def ab_Cl (R : ab_Rel) : Prop :=
  (∀ i n t ls st h o h', (ab_L i)[n]? = some t → ab_w1 t ls st h (fun ls1 st1 h1 => R i (n + 1) ls1 st1 h1 o h') → R i n ls st h o h') ∧
  (∀ i n t off ls st h o h', (ab_L i)[n]? = some t → t.2.1 = .goto off → R i t.2.2.2.1 ls st h o h' → R i n ls st h o h') ∧
  (∀ i n t c off x ls st h o h', (ab_L i)[n]? = some t → t.2.1 = .ifCond c off → (ab_cmp c x 0 → R i t.2.2.2.1 ls st h o h') → (¬ ab_cmp c x 0 → R i (n + 1) ls st h o h') → R i n ls (vI x :: st) h o h') ∧
  (∀ i n t c off x y ls st h o h', (ab_L i)[n]? = some t → t.2.1 = .if_icmp c off → (ab_cmp c x y → R i t.2.2.2.1 ls st h o h') → (¬ ab_cmp c x y → R i (n + 1) ls st h o h') → R i n ls (vI y :: vI x :: st) h o h') ∧
  (∀ i n t d lo hi offs x ls st h o h', (ab_L i)[n]? = some t → t.2.1 = .tableswitch d lo hi offs → R i (ab_swt (ab_L i) t lo hi offs x) ls st h o h' → R i n ls (vI x :: st) h o h') ∧
  (∀ i n t x ls h, (ab_L i)[n]? = some t → t.2.1 = .ireturn → (ab_rt i = some .int ∨ (ab_rt i = some .boolean ∧ (x = 0 ∨ x = 1))) → R i n ls [vI x] h (oI x) h) ∧
  (∀ i n t ls h, (ab_L i)[n]? = some t → t.2.1 = .return_ → ab_rt i = none → R i n ls [] h oV h) ∧
  (∀ i n j as rest ls h r h1 o h', ab_cal i n j as rest → R j 0 (ab_ent j as) [] h (Sum.inl r) h1 → R i (n + 1) ls (r.toList ++ rest) h1 o h' → R i n ls (as.reverse ++ rest) h o h') ∧
  (∀ i n j as rest ls h x h1, ab_cal i n j as rest → ¬ (127 ≤ i ∧ i ≤ 135) → R j 0 (ab_ent j as) [] h (Sum.inr x) h1 → R i n ls (as.reverse ++ rest) h (Sum.inr x) h1) ∧
  (∀ i n j as rest ls h x h1 c, ab_cal i n j as rest → (i, x, c) ∈ ab_HC → R j 0 (ab_ent j as) [] h (Sum.inr x) h1 → R i n ls (as.reverse ++ rest) h (oI c) h1) ∧
  (∀ i n x ls st h, ab_thr i n x → ab_nl st = true → st.length ≤ 8 → R i n ls st h (Sum.inr x) (ab_up h 39 0 (h 39 0 + 1))) ∧
  (∀ i n t k m q d p s rest ls h o h', (ab_L i)[n]? = some t → t.2.1 = .invokestatic k → t.2.2.2.1 = 9999 → ab_ty s = 0 → ab_ty d = 0 → s < 38 → d < 38 → ¬ s = d → (0 ≤ p ∧ 0 ≤ q ∧ 0 ≤ m ∧ p + m ≤ ab_ln h s ∧ q + m ≤ ab_ln h d) → ab_nl rest = true → rest.length ≤ 3 →
    R i (n + 1) ls rest (ab_cp h s p d q m) o h' → R i n ls (vI m :: vI q :: vR d :: vI p :: vR s :: rest) h o h')
def ab_lr : ab_Rel := fun i n ls st h o h' => ∀ R : ab_Rel, ab_Cl R → R i n ls st h o h'
/-- from here on, K -/
def X (i n : Nat) (ls st : List ab_V) (h : ab_S) (K : ab_O → ab_S → Prop) : Prop := ∃ o h', ab_lr i n ls st h o h' ∧ K o h'
/-- a call of j, then K -/
def C (j : Nat) (as : List ab_V) (h : ab_S) (K : ab_O → ab_S → Prop) : Prop := X j 0 (ab_ent j as) [] h K
variable {i n : Nat} {ls st : List ab_V} {h : ab_S} {K : ab_O → ab_S → Prop}
theorem X_mono {K' : ab_O → ab_S → Prop} (H : X i n ls st h K) (hk : ∀ o h', K o h' → K' o h') : X i n ls st h K' := by
  obtain ⟨o, h', a, b⟩ := H
  exact ⟨o, h', a, hk o h' b⟩
theorem C_mono {j : Nat} {as : List ab_V} {K' : ab_O → ab_S → Prop} (H : C j as h K) (hk : ∀ o h', K o h' → K' o h') : C j as h K' := X_mono H hk
theorem X_1 {t : ab_I} (ht : (ab_L i)[n]? = some t) (H : ab_w1 t ls st h (fun ls1 st1 h1 => X i (n + 1) ls1 st1 h1 K)) : X i n ls st h K := by
  obtain ⟨ls1, st1, h1, ⟨o, h', a, b⟩, d⟩ := ab_w1_det H
  exact ⟨o, h', fun R hR => hR.1 i n t ls st h o h' ht (d _ (a R hR)), b⟩
theorem X_bL {L : List ab_I} (hL : ab_L i = L) : ∀ (m n : Nat) (ls st : List ab_V) (h : ab_S), n + m ≤ L.length → ab_bw (fun ls1 st1 h1 => X i (n + m) ls1 st1 h1 K) ((L.drop n).take m) ls st h → X i n ls st h K := by
  intro m
  induction m with
  | zero =>
    intro n ls st h _ H
    rw [List.take_zero] at H
    exact H
  | succ m ih =>
    intro n ls st h hl H
    have hn : n < L.length := by omega
    have e : (L.drop n).take (m + 1) = L[n] :: (L.drop (n + 1)).take m := by
      rw [List.drop_eq_getElem_cons hn, List.take_succ_cons]
    rw [e] at H
    have ht : (ab_L i)[n]? = some L[n] := by rw [hL]; exact List.getElem?_eq_getElem hn
    refine X_1 ht ?_
    obtain ⟨ls1, st1, h1, a, d⟩ := ab_w1_det H
    refine d _ (ih (n + 1) ls1 st1 h1 (by omega) ?_)
    rw [show n + 1 + m = n + (m + 1) by omega]
    exact a
/-- m instructions on -/
theorem X_b (m n' : Nat) {L : List ab_I} (hL : ab_L i = L) (hl : Nat.ble (n + m) L.length = true) (hn : n + m = n') (H : ab_bw (fun ls1 st1 h1 => X i n' ls1 st1 h1 K) ((L.drop n).take m) ls st h) : X i n ls st h K := by
  subst hn
  exact X_bL hL m n ls st h (Nat.le_of_ble_eq_true hl) H
theorem X_goto {L : List ab_I} {t : ab_I} {off : Int} {n' : Nat} (hL : ab_L i = L) (ht : L[n]? = some t) (e : t.2.1 = .goto off) (hn : t.2.2.2.1 = n') (H : X i n' ls st h K) : X i n ls st h K := by
  subst hn
  obtain ⟨o, h', a, b⟩ := H
  exact ⟨o, h', fun R hR => hR.2.1 i n t off ls st h o h' (by rw [hL]; exact ht) e (a R hR), b⟩
theorem X_if {L : List ab_I} {t : ab_I} {c : Jvm.ClassFile.Cond} {off x : Int} {n' : Nat} (hL : ab_L i = L) (ht : L[n]? = some t) (e : t.2.1 = .ifCond c off) (hn : t.2.2.2.1 = n') (H1 : ab_cmp c x 0 → X i n' ls st h K) (H2 : ¬ ab_cmp c x 0 → X i (n + 1) ls st h K) : X i n ls (vI x :: st) h K := by
  subst hn
  have ht' : (ab_L i)[n]? = some t := by rw [hL]; exact ht
  by_cases hc : ab_cmp c x 0
  · obtain ⟨o, h', a, b⟩ := H1 hc
    exact ⟨o, h', fun R hR => hR.2.2.1 i n t c off x ls st h o h' ht' e (fun _ => a R hR) (fun z => absurd hc z), b⟩
  · obtain ⟨o, h', a, b⟩ := H2 hc
    exact ⟨o, h', fun R hR => hR.2.2.1 i n t c off x ls st h o h' ht' e (fun z => absurd z hc) (fun _ => a R hR), b⟩
theorem X_icmp {L : List ab_I} {t : ab_I} {c : Jvm.ClassFile.Cond} {off x y : Int} {n' : Nat} (hL : ab_L i = L) (ht : L[n]? = some t) (e : t.2.1 = .if_icmp c off) (hn : t.2.2.2.1 = n') (H1 : ab_cmp c x y → X i n' ls st h K) (H2 : ¬ ab_cmp c x y → X i (n + 1) ls st h K) : X i n ls (vI y :: vI x :: st) h K := by
  subst hn
  have ht' : (ab_L i)[n]? = some t := by rw [hL]; exact ht
  by_cases hc : ab_cmp c x y
  · obtain ⟨o, h', a, b⟩ := H1 hc
    exact ⟨o, h', fun R hR => hR.2.2.2.1 i n t c off x y ls st h o h' ht' e (fun _ => a R hR) (fun z => absurd hc z), b⟩
  · obtain ⟨o, h', a, b⟩ := H2 hc
    exact ⟨o, h', fun R hR => hR.2.2.2.1 i n t c off x y ls st h o h' ht' e (fun z => absurd z hc) (fun _ => a R hR), b⟩
theorem X_sw {L : List ab_I} {t : ab_I} {d lo hi : Int} {offs : Array Int} {x : Int} {n' : Nat} (hL : ab_L i = L) (ht : L[n]? = some t) (e : t.2.1 = .tableswitch d lo hi offs) (hn : ab_swt L t lo hi offs x = n') (H : X i n' ls st h K) : X i n ls (vI x :: st) h K := by
  subst hn
  subst hL
  obtain ⟨o, h', a, b⟩ := H
  exact ⟨o, h', fun R hR => hR.2.2.2.2.1 i n t d lo hi offs x ls st h o h' ht e (a R hR), b⟩
theorem X_iret {L : List ab_I} {t : ab_I} {x : Int} (hL : ab_L i = L) (ht : L[n]? = some t) (e : t.2.1 = .ireturn) (hr : ab_rt i = some .int) (H : K (oI x) h) : X i n ls [vI x] h K :=
  ⟨_, _, fun R hR => hR.2.2.2.2.2.1 i n t x ls h (by rw [hL]; exact ht) e (Or.inl hr), H⟩
theorem X_zret {L : List ab_I} {t : ab_I} {x : Int} (hL : ab_L i = L) (ht : L[n]? = some t) (e : t.2.1 = .ireturn) (hr : ab_rt i = some .boolean) (hx : x = 0 ∨ x = 1) (H : K (oI x) h) : X i n ls [vI x] h K :=
  ⟨_, _, fun R hR => hR.2.2.2.2.2.1 i n t x ls h (by rw [hL]; exact ht) e (Or.inr ⟨hr, hx⟩), H⟩
theorem X_ret {L : List ab_I} {t : ab_I} (hL : ab_L i = L) (ht : L[n]? = some t) (e : t.2.1 = .return_) (hr : ab_rt i = none) (H : K oV h) : X i n ls [] h K :=
  ⟨_, _, fun R hR => hR.2.2.2.2.2.2.1 i n t ls h (by rw [hL]; exact ht) e hr, H⟩
/-- a call that returns, where this method has no handlers it may throw too -/
theorem X_call (j : Nat) (as rest : List ab_V) (hst : as.reverse ++ rest = st) (hc : ab_cal i n j as rest) (hi : ¬ (127 ≤ i ∧ i ≤ 135))
    (H : C j as h (fun o h1 => match o with
      | Sum.inl r => X i (n + 1) ls (r.toList ++ rest) h1 K
      | Sum.inr x => K (Sum.inr x) h1)) : X i n ls st h K := by
  subst hst
  obtain ⟨o, h1, a, b⟩ := H
  cases o with
  | inl r =>
    obtain ⟨o2, h2, a2, b2⟩ := b
    exact ⟨o2, h2, fun R hR => hR.2.2.2.2.2.2.2.1 i n j as rest ls h r h1 o2 h2 hc (a R hR) (a2 R hR), b2⟩
  | inr x => exact ⟨_, _, fun R hR => hR.2.2.2.2.2.2.2.2.1 i n j as rest ls h x h1 hc hi (a R hR), b⟩
/-- the same where this method has handlers -/
theorem X_callH (j : Nat) (as rest : List ab_V) (hst : as.reverse ++ rest = st) (hc : ab_cal i n j as rest)
    (H : C j as h (fun o h1 => match o with
      | Sum.inl r => X i (n + 1) ls (r.toList ++ rest) h1 K
      | Sum.inr x => ∃ c, (i, x, c) ∈ ab_HC ∧ K (oI c) h1)) : X i n ls st h K := by
  subst hst
  obtain ⟨o, h1, a, b⟩ := H
  cases o with
  | inl r =>
    obtain ⟨o2, h2, a2, b2⟩ := b
    exact ⟨o2, h2, fun R hR => hR.2.2.2.2.2.2.2.1 i n j as rest ls h r h1 o2 h2 hc (a R hR) (a2 R hR), b2⟩
  | inr x =>
    obtain ⟨c, hm, hk⟩ := b
    exact ⟨_, _, fun R hR => hR.2.2.2.2.2.2.2.2.2.1 i n j as rest ls h x h1 c hc hm (a R hR), hk⟩
theorem X_thr (x : Nat) (ht : ab_thr i n x) (hs : ab_nl st = true) (hl : st.length ≤ 8) (H : K (Sum.inr x) (ab_up h 39 0 (h 39 0 + 1))) : X i n ls st h K :=
  ⟨_, _, fun R hR => hR.2.2.2.2.2.2.2.2.2.2.1 i n x ls st h ht hs hl, H⟩
theorem X_cp {L : List ab_I} {t : ab_I} {k s d : Nat} {m q p : Int} {rest : List ab_V} (hL : ab_L i = L) (ht : L[n]? = some t) (e : t.2.1 = .invokestatic k) (hj : t.2.2.2.1 = 9999) (h1 : ab_ty s = 0) (h2 : ab_ty d = 0) (h3 : s < 38) (h4 : d < 38) (h5 : ¬ s = d) (h6 : 0 ≤ p ∧ 0 ≤ q ∧ 0 ≤ m ∧ p + m ≤ ab_ln h s ∧ q + m ≤ ab_ln h d) (hr : ab_nl rest = true) (hr2 : rest.length ≤ 3)
    (H : X i (n + 1) ls rest (ab_cp h s p d q m) K) : X i n ls (vI m :: vI q :: vR d :: vI p :: vR s :: rest) h K := by
  obtain ⟨o, h', a, b⟩ := H
  exact ⟨o, h', fun R hR => hR.2.2.2.2.2.2.2.2.2.2.2 i n t k m q d p s rest ls h o h' (by rw [hL]; exact ht) e hj h1 h2 h3 h4 h5 h6 hr hr2 (a R hR), b⟩
end Rules
end
section
/-! Every method's listing is good. -/
section Good
def ab_gd (m : ab_Mt) : Prop := (∀ (n : Nat) (t : ab_I), m.2.2.2.2.2.2.2[n]? = some t → decode m.2.2.1 t.1 = .ok (t.2.1, t.2.2.1) ∧ ab_c1 m.1 m.2.2.2.1 m.2.2.2.2.2.2.2 t = true) ∧ ∀ (n : Nat) (t u : ab_I), m.2.2.2.2.2.2.2[n]? = some t → m.2.2.2.2.2.2.2[n + 1]? = some u → u.1 = t.1 + t.2.2.1
theorem ab_chain_of : ∀ (L : List ab_I), ab_chain L = true → ∀ (n : Nat) (t u : ab_I), L[n]? = some t → L[n + 1]? = some u → u.1 = t.1 + t.2.2.1
  | [], _, n, t, u, h, _ => by simp at h
  | [a], _, n, t, u, _, h => by simp at h
  | a :: b :: r, hc, n, t, u, ht, hu => by
    rw [ab_chain, Bool.and_eq_true, decide_eq_true_eq] at hc
    cases n with
    | zero =>
      cases Option.some.inj ht
      cases Option.some.inj hu
      exact hc.1
    | succ n => exact ab_chain_of (b :: r) hc.2 n t u ht hu
theorem ab_gd_of {m : ab_Mt} (h : ab_chk m = true) : ab_gd m := by
  rw [ab_chk, Bool.and_eq_true] at h
  refine ⟨fun n t ht => ?_, ab_chain_of _ h.2⟩
  have h1 := List.all_eq_true.mp h.1 t (List.mem_of_getElem? ht)
  rw [Bool.and_eq_true, decide_eq_true_eq] at h1
  exact h1
theorem ab_chS_of {m : ab_Mt} {a k : Nat} (h : ab_chS m a k = true) (n : Nat) (t : ab_I) (ht : m.2.2.2.2.2.2.2[n]? = some t) (h1 : a ≤ n) (h2 : n < a + k) : decode m.2.2.1 t.1 = .ok (t.2.1, t.2.2.1) ∧ ab_c1 m.1 m.2.2.2.1 m.2.2.2.2.2.2.2 t = true := by
  have hm : t ∈ (m.2.2.2.2.2.2.2.drop a).take k := by
    refine List.mem_of_getElem? (i := n - a) ?_
    rw [List.getElem?_take_of_lt (by omega), List.getElem?_drop, show a + (n - a) = n by omega]
    exact ht
  have h3 := List.all_eq_true.mp h t hm
  rw [Bool.and_eq_true, decide_eq_true_eq] at h3
  exact h3
set_option maxRecDepth 100000 in
theorem len_136 : L_136.length = 482 := by decide +kernel
theorem gd_136 : ab_gd M_136 := by
  refine ⟨fun n t ht => ?_, ab_chain_of _ cl_c⟩
  have hn : n < L_136.length := (List.getElem?_eq_some_iff.mp ht).1
  rw [len_136] at hn
  by_cases q0 : n < 40
  · exact ab_chS_of cl_0 n t ht (by omega) (by omega)
  by_cases q40 : n < 80
  · exact ab_chS_of cl_40 n t ht (by omega) (by omega)
  by_cases q80 : n < 120
  · exact ab_chS_of cl_80 n t ht (by omega) (by omega)
  by_cases q120 : n < 160
  · exact ab_chS_of cl_120 n t ht (by omega) (by omega)
  by_cases q160 : n < 200
  · exact ab_chS_of cl_160 n t ht (by omega) (by omega)
  by_cases q200 : n < 240
  · exact ab_chS_of cl_200 n t ht (by omega) (by omega)
  by_cases q240 : n < 280
  · exact ab_chS_of cl_240 n t ht (by omega) (by omega)
  by_cases q280 : n < 320
  · exact ab_chS_of cl_280 n t ht (by omega) (by omega)
  by_cases q320 : n < 360
  · exact ab_chS_of cl_320 n t ht (by omega) (by omega)
  by_cases q360 : n < 400
  · exact ab_chS_of cl_360 n t ht (by omega) (by omega)
  by_cases q400 : n < 440
  · exact ab_chS_of cl_400 n t ht (by omega) (by omega)
  by_cases q440 : n < 480
  · exact ab_chS_of cl_440 n t ht (by omega) (by omega)
  exact ab_chS_of cl_480 n t ht (by omega) (by omega)
set_option maxRecDepth 100000 in
theorem ab_gds : ∀ m ∈ ab_Ms, ab_gd m := List.forall_mem_cons.mpr ⟨ab_gd_of ck_0, List.forall_mem_cons.mpr ⟨ab_gd_of ck_1, List.forall_mem_cons.mpr ⟨ab_gd_of ck_2, List.forall_mem_cons.mpr ⟨ab_gd_of ck_3, List.forall_mem_cons.mpr ⟨ab_gd_of ck_4, List.forall_mem_cons.mpr ⟨ab_gd_of ck_5, List.forall_mem_cons.mpr ⟨ab_gd_of ck_6, List.forall_mem_cons.mpr ⟨ab_gd_of ck_7, List.forall_mem_cons.mpr ⟨ab_gd_of ck_8, List.forall_mem_cons.mpr ⟨ab_gd_of ck_9, List.forall_mem_cons.mpr ⟨ab_gd_of ck_10, List.forall_mem_cons.mpr ⟨ab_gd_of ck_11, List.forall_mem_cons.mpr ⟨ab_gd_of ck_12, List.forall_mem_cons.mpr ⟨ab_gd_of ck_13, List.forall_mem_cons.mpr ⟨ab_gd_of ck_14, List.forall_mem_cons.mpr ⟨ab_gd_of ck_15, List.forall_mem_cons.mpr ⟨ab_gd_of ck_16, List.forall_mem_cons.mpr ⟨ab_gd_of ck_17, List.forall_mem_cons.mpr ⟨ab_gd_of ck_18, List.forall_mem_cons.mpr ⟨ab_gd_of ck_19, List.forall_mem_cons.mpr ⟨ab_gd_of ck_20, List.forall_mem_cons.mpr ⟨ab_gd_of ck_21, List.forall_mem_cons.mpr ⟨ab_gd_of ck_22, List.forall_mem_cons.mpr ⟨ab_gd_of ck_23, List.forall_mem_cons.mpr ⟨ab_gd_of ck_24, List.forall_mem_cons.mpr ⟨ab_gd_of ck_25, List.forall_mem_cons.mpr ⟨ab_gd_of ck_26, List.forall_mem_cons.mpr ⟨ab_gd_of ck_27, List.forall_mem_cons.mpr ⟨ab_gd_of ck_28, List.forall_mem_cons.mpr ⟨ab_gd_of ck_29, List.forall_mem_cons.mpr ⟨ab_gd_of ck_30, List.forall_mem_cons.mpr ⟨ab_gd_of ck_31, List.forall_mem_cons.mpr ⟨ab_gd_of ck_32, List.forall_mem_cons.mpr ⟨ab_gd_of ck_33, List.forall_mem_cons.mpr ⟨ab_gd_of ck_34, List.forall_mem_cons.mpr ⟨ab_gd_of ck_35, List.forall_mem_cons.mpr ⟨ab_gd_of ck_36, List.forall_mem_cons.mpr ⟨ab_gd_of ck_37, List.forall_mem_cons.mpr ⟨ab_gd_of ck_38, List.forall_mem_cons.mpr ⟨ab_gd_of ck_39, List.forall_mem_cons.mpr ⟨ab_gd_of ck_40, List.forall_mem_cons.mpr ⟨ab_gd_of ck_41, List.forall_mem_cons.mpr ⟨ab_gd_of ck_42, List.forall_mem_cons.mpr ⟨ab_gd_of ck_43, List.forall_mem_cons.mpr ⟨ab_gd_of ck_44, List.forall_mem_cons.mpr ⟨ab_gd_of ck_45, List.forall_mem_cons.mpr ⟨ab_gd_of ck_46, List.forall_mem_cons.mpr ⟨ab_gd_of ck_47, List.forall_mem_cons.mpr ⟨ab_gd_of ck_48, List.forall_mem_cons.mpr ⟨ab_gd_of ck_49, List.forall_mem_cons.mpr ⟨ab_gd_of ck_50, List.forall_mem_cons.mpr ⟨ab_gd_of ck_51, List.forall_mem_cons.mpr ⟨ab_gd_of ck_52, List.forall_mem_cons.mpr ⟨ab_gd_of ck_53, List.forall_mem_cons.mpr ⟨ab_gd_of ck_54, List.forall_mem_cons.mpr ⟨ab_gd_of ck_55, List.forall_mem_cons.mpr ⟨ab_gd_of ck_56, List.forall_mem_cons.mpr ⟨ab_gd_of ck_57, List.forall_mem_cons.mpr ⟨ab_gd_of ck_58, List.forall_mem_cons.mpr ⟨ab_gd_of ck_59, List.forall_mem_cons.mpr ⟨ab_gd_of ck_60, List.forall_mem_cons.mpr ⟨ab_gd_of ck_61, List.forall_mem_cons.mpr ⟨ab_gd_of ck_62, List.forall_mem_cons.mpr ⟨ab_gd_of ck_63, List.forall_mem_cons.mpr ⟨ab_gd_of ck_64, List.forall_mem_cons.mpr ⟨ab_gd_of ck_65, List.forall_mem_cons.mpr ⟨ab_gd_of ck_66, List.forall_mem_cons.mpr ⟨ab_gd_of ck_67, List.forall_mem_cons.mpr ⟨ab_gd_of ck_68, List.forall_mem_cons.mpr ⟨ab_gd_of ck_69, List.forall_mem_cons.mpr ⟨ab_gd_of ck_70, List.forall_mem_cons.mpr ⟨ab_gd_of ck_71, List.forall_mem_cons.mpr ⟨ab_gd_of ck_72, List.forall_mem_cons.mpr ⟨ab_gd_of ck_73, List.forall_mem_cons.mpr ⟨ab_gd_of ck_74, List.forall_mem_cons.mpr ⟨ab_gd_of ck_75, List.forall_mem_cons.mpr ⟨ab_gd_of ck_76, List.forall_mem_cons.mpr ⟨ab_gd_of ck_77, List.forall_mem_cons.mpr ⟨ab_gd_of ck_78, List.forall_mem_cons.mpr ⟨ab_gd_of ck_79, List.forall_mem_cons.mpr ⟨ab_gd_of ck_80, List.forall_mem_cons.mpr ⟨ab_gd_of ck_81, List.forall_mem_cons.mpr ⟨ab_gd_of ck_82, List.forall_mem_cons.mpr ⟨ab_gd_of ck_83, List.forall_mem_cons.mpr ⟨ab_gd_of ck_84, List.forall_mem_cons.mpr ⟨ab_gd_of ck_85, List.forall_mem_cons.mpr ⟨ab_gd_of ck_86, List.forall_mem_cons.mpr ⟨ab_gd_of ck_87, List.forall_mem_cons.mpr ⟨ab_gd_of ck_88, List.forall_mem_cons.mpr ⟨ab_gd_of ck_89, List.forall_mem_cons.mpr ⟨ab_gd_of ck_90, List.forall_mem_cons.mpr ⟨ab_gd_of ck_91, List.forall_mem_cons.mpr ⟨ab_gd_of ck_92, List.forall_mem_cons.mpr ⟨ab_gd_of ck_93, List.forall_mem_cons.mpr ⟨ab_gd_of ck_94, List.forall_mem_cons.mpr ⟨ab_gd_of ck_95, List.forall_mem_cons.mpr ⟨ab_gd_of ck_96, List.forall_mem_cons.mpr ⟨ab_gd_of ck_97, List.forall_mem_cons.mpr ⟨ab_gd_of ck_98, List.forall_mem_cons.mpr ⟨ab_gd_of ck_99, List.forall_mem_cons.mpr ⟨ab_gd_of ck_100, List.forall_mem_cons.mpr ⟨ab_gd_of ck_101, List.forall_mem_cons.mpr ⟨ab_gd_of ck_102, List.forall_mem_cons.mpr ⟨ab_gd_of ck_103, List.forall_mem_cons.mpr ⟨ab_gd_of ck_104, List.forall_mem_cons.mpr ⟨ab_gd_of ck_105, List.forall_mem_cons.mpr ⟨ab_gd_of ck_106, List.forall_mem_cons.mpr ⟨ab_gd_of ck_107, List.forall_mem_cons.mpr ⟨ab_gd_of ck_108, List.forall_mem_cons.mpr ⟨ab_gd_of ck_109, List.forall_mem_cons.mpr ⟨ab_gd_of ck_110, List.forall_mem_cons.mpr ⟨ab_gd_of ck_111, List.forall_mem_cons.mpr ⟨ab_gd_of ck_112, List.forall_mem_cons.mpr ⟨ab_gd_of ck_113, List.forall_mem_cons.mpr ⟨ab_gd_of ck_114, List.forall_mem_cons.mpr ⟨ab_gd_of ck_115, List.forall_mem_cons.mpr ⟨ab_gd_of ck_116, List.forall_mem_cons.mpr ⟨ab_gd_of ck_117, List.forall_mem_cons.mpr ⟨ab_gd_of ck_118, List.forall_mem_cons.mpr ⟨ab_gd_of ck_119, List.forall_mem_cons.mpr ⟨ab_gd_of ck_120, List.forall_mem_cons.mpr ⟨ab_gd_of ck_121, List.forall_mem_cons.mpr ⟨ab_gd_of ck_122, List.forall_mem_cons.mpr ⟨ab_gd_of ck_123, List.forall_mem_cons.mpr ⟨ab_gd_of ck_124, List.forall_mem_cons.mpr ⟨ab_gd_of ck_125, List.forall_mem_cons.mpr ⟨ab_gd_of ck_126, List.forall_mem_cons.mpr ⟨ab_gd_of ck_127, List.forall_mem_cons.mpr ⟨ab_gd_of ck_128, List.forall_mem_cons.mpr ⟨ab_gd_of ck_129, List.forall_mem_cons.mpr ⟨ab_gd_of ck_130, List.forall_mem_cons.mpr ⟨ab_gd_of ck_131, List.forall_mem_cons.mpr ⟨ab_gd_of ck_132, List.forall_mem_cons.mpr ⟨ab_gd_of ck_133, List.forall_mem_cons.mpr ⟨ab_gd_of ck_134, List.forall_mem_cons.mpr ⟨ab_gd_of ck_135, List.forall_mem_cons.mpr ⟨gd_136, List.forall_mem_cons.mpr ⟨ab_gd_of ck_137, fun _ h => absurd h List.not_mem_nil⟩⟩⟩⟩⟩⟩⟩⟩⟩⟩⟩⟩⟩⟩⟩⟩⟩⟩⟩⟩⟩⟩⟩⟩⟩⟩⟩⟩⟩⟩⟩⟩⟩⟩⟩⟩⟩⟩⟩⟩⟩⟩⟩⟩⟩⟩⟩⟩⟩⟩⟩⟩⟩⟩⟩⟩⟩⟩⟩⟩⟩⟩⟩⟩⟩⟩⟩⟩⟩⟩⟩⟩⟩⟩⟩⟩⟩⟩⟩⟩⟩⟩⟩⟩⟩⟩⟩⟩⟩⟩⟩⟩⟩⟩⟩⟩⟩⟩⟩⟩⟩⟩⟩⟩⟩⟩⟩⟩⟩⟩⟩⟩⟩⟩⟩⟩⟩⟩⟩⟩⟩⟩⟩⟩⟩⟩⟩⟩⟩⟩⟩⟩⟩⟩⟩⟩⟩⟩
theorem ab_mt_mem (i : Nat) : ab_mt i ∈ ab_Ms := by
  unfold ab_mt
  rw [List.getD_eq_getElem?_getD]
  cases h : ab_Ms[i]? with
  | none => exact List.mem_cons_self
  | some m => exact List.mem_of_getElem? h
theorem ab_gdi (i : Nat) : ab_gd (ab_mt i) := ab_gds _ (ab_mt_mem i)
/-- no listing ends with an instruction that goes on -/
def ab_end (L : List ab_I) : Bool := match L.getLast? with
  | some t => (match t.2.1 with
    | .ireturn => true
    | .return_ => true
    | .athrow => true
    | .goto _ => true
    | _ => false)
  | none => false
set_option maxRecDepth 100000 in
theorem ab_ends : ∀ m ∈ ab_Ms, ab_end m.2.2.2.2.2.2.2 = true := by decide +kernel
theorem ab_end_of {L : List ab_I} (h : ab_end L = true) {n : Nat} {t : ab_I} (ht : L[n]? = some t) (h1 : t.2.1 ≠ .ireturn) (h2 : t.2.1 ≠ .return_) (h3 : t.2.1 ≠ .athrow) (h4 : ∀ o, t.2.1 ≠ .goto o) : ∃ u, L[n + 1]? = some u := by
  by_cases hn : n + 1 < L.length
  · exact ⟨L[n + 1], List.getElem?_eq_getElem hn⟩
  · exfalso
    obtain ⟨hl, he⟩ := List.getElem?_eq_some_iff.mp ht
    have hla : L.getLast? = some t := by
      rw [List.getLast?_eq_getElem?, show L.length - 1 = n by omega]
      exact ht
    rw [ab_end, hla] at h
    dsimp only at h
    split at h
    · rename_i e; exact h1 e
    · rename_i e; exact h2 e
    · rename_i e; exact h3 e
    · rename_i o e; exact h4 _ e
    · cases h
end Good
end
section
/-! The words that the rules of the machine ask, all among the tables. -/
section Words
/-- the fields of the classes 0 to 6: name, kind, final -/
def ab_FD : List (List (String × String × Bool)) := [[("count", "I", false), ("entries", "[I", true), ("items", "[I", true)], [("grammar", "LParserProof$Grammar;", true), ("automaton", "LParserProof$Automaton;", true), ("draft", "[I", true)], [("grammar", "LParserProof$Grammar;", true), ("automaton", "LParserProof$Automaton;", true), ("where", "[I", true)], [("count", "I", false), ("makes", "[I", true), ("lengths", "[I", true), ("rows", "[I", true), ("nullable", "[Z", true), ("firsts", "[I", true)], [("grammar", "LParserProof$Grammar;", true), ("automaton", "LParserProof$Automaton;", true), ("input", "[I", true), ("inputLength", "I", false), ("position", "I", false), ("stackStates", "[I", true), ("stackNodes", "[I", true), ("height", "I", false), ("tree", "[I", true), ("nodeCount", "I", false)], [("grammar", "LParserProof$Grammar;", true), ("automaton", "LParserProof$Automaton;", true), ("builder", "LParserProof$Builder;", true), ("checker", "LParserProof$Checker;", true), ("parser", "LParserProof$Parser;", true)], [("code", "I", false), ("rules", "I", false), ("left", "[I", true), ("size", "[I", true), ("symbols", "[I", true), ("nullable", "[Z", true), ("begins", "[Z", true), ("states", "I", false), ("items", "[Z", true), ("entries", "[I", true), ("made", "[Z", true), ("queue", "[I", true), ("queued", "I", false), ("faultState", "I", false), ("faultRule", "I", false), ("faultDot", "I", false), ("faultAhead", "I", false), ("fed", "I", false), ("input", "[I", true), ("parsed", "Z", false), ("at", "I", false), ("height", "I", false), ("nodes", "I", false), ("stackState", "[I", true), ("stackNode", "[I", true), ("symbol", "[I", true), ("madeBy", "[I", true), ("parent", "[I", true), ("begin", "[I", true), ("length", "[I", true)]]
def ab_cs (c : Nat) : String := ab_cn.getD c ""
def ab_fd (c k : Nat) : String × String × Bool := (ab_FD.getD c []).getD k ("", "", false)
def ab_T (c : Nat) : u_T := fun k => (ab_cs c, (ab_fd c k).1, (ab_fd c k).2.1, (ab_fd c k).2.2)
def ab_N (c : Nat) : Nat := (ab_FD.getD c []).length
def ab_cls : List vw_C := (List.range 7).map fun c => (ab_cs c, ab_T c, ab_N c)
def ab_tyf (c k : Nat) : FieldType := match (ab_fd c k).2.1 with
  | "I" => .int
  | "Z" => .boolean
  | "[I" => .array .int
  | "[Z" => .array .boolean
  | "LParserProof$Grammar;" => .object "ParserProof$Grammar"
  | "LParserProof$Automaton;" => .object "ParserProof$Automaton"
  | "LParserProof$Builder;" => .object "ParserProof$Builder"
  | "LParserProof$Checker;" => .object "ParserProof$Checker"
  | _ => .object "ParserProof$Parser"
theorem ab_tyok : ∀ c ∈ List.range 7, ∀ k ∈ List.range (ab_N c), parseFieldDescriptor (ab_T c k).2.2.1 = some (ab_tyf c k) := by decide +kernel
theorem ab_nmok : ∀ c ∈ List.range 7, ∀ a ∈ List.range (ab_N c), ∀ b ∈ List.range (ab_N c), a ≠ b → (ab_T c a).2.1 ≠ (ab_T c b).2.1 := by decide +kernel
theorem ab_layok : ∀ c ∈ List.range 7, ∀ w ∈ u_ws (ab_cs c) (ab_T c) (ab_N c), w ∈ lw_tbl ∧ goodWord w = true := by decide +kernel
def ab_fw (q : Nat × Nat × Nat × Nat) : Cond := .fieldLink (ab_cs q.1) q.2.1 (ab_cs q.2.2.1) (ab_T q.2.2.1 q.2.2.2).2.1 (ab_T q.2.2.1 q.2.2.2).2.2.1
theorem ab_fwok : ∀ q ∈ ab_FT, ab_fw q ∈ lw_tbl ∧ goodWord (ab_fw q) = true ∧ q.2.2.1 < 7 ∧ q.2.2.2 < ab_N q.2.2.1 := by decide +kernel
end Words
end
section
/-! The words that calls ask. By program. -/
def ab_HT : List (List (Nat × Nat × Nat × Nat)) := [[(0, 9, 12, 13), (0, 9, 15, 15)], [(0, 8, 11, 15), (0, 8, 14, 21)], [(0, 10, 13, 27)], [(0, 7, 10, 27), (0, 7, 14, 13)], [(0, 21, 24, 27), (0, 21, 28, 13)], [(0, 21, 24, 27), (0, 21, 28, 13)], [(0, 8, 11, 15)], [(0, 9, 12, 15), (0, 9, 15, 13)], [(0, 10, 13, 27), (0, 10, 17, 13)]]
/-- a method's handlers -/
def ab_hh (i : Nat) : List (Nat × Nat × Nat × Nat) := if 127 ≤ i ∧ i ≤ 135 then ab_HT.getD (i - 127) [] else []
def ab_kw (i : Nat) : Cond := if 127 ≤ i ∧ i ≤ 135 then .codeWith (ab_yn i) (ab_bc i) (ab_ml i) (ab_rt i) (ab_hh i) else .code (ab_yn i) (ab_bc i) (ab_ml i) (ab_rt i)
set_option maxRecDepth 100000 in
theorem kw_0 : ab_kw 0 ∈ lw_tbl := List.mem_append_right _ (List.mem_of_getElem? (i := 239) (by decide +kernel))
theorem im_0 : Cond.instanceMethod (ab_yn 0) ∈ lw_tbl := List.mem_append_right _ (List.mem_of_getElem? (i := 237) (by decide +kernel))
theorem se_0 : Cond.selects (ab_yn 0).cls (ab_yn 0) (ab_yn 0) ∈ lw_tbl := List.mem_append_right _ (List.mem_of_getElem? (i := 238) (by decide +kernel))
set_option maxRecDepth 100000 in
theorem kw_1 : ab_kw 1 ∈ lw_tbl := List.mem_append_right _ (List.mem_of_getElem? (i := 175) (by decide +kernel))
theorem im_1 : Cond.instanceMethod (ab_yn 1) ∈ lw_tbl := List.mem_append_right _ (List.mem_of_getElem? (i := 173) (by decide +kernel))
theorem se_1 : Cond.selects (ab_yn 1).cls (ab_yn 1) (ab_yn 1) ∈ lw_tbl := List.mem_append_right _ (List.mem_of_getElem? (i := 174) (by decide +kernel))
set_option maxRecDepth 100000 in
theorem kw_2 : ab_kw 2 ∈ lw_tbl := List.mem_append_right _ (List.mem_of_getElem? (i := 349) (by decide +kernel))
theorem im_2 : Cond.instanceMethod (ab_yn 2) ∈ lw_tbl := List.mem_append_right _ (List.mem_of_getElem? (i := 347) (by decide +kernel))
theorem se_2 : Cond.selects (ab_yn 2).cls (ab_yn 2) (ab_yn 2) ∈ lw_tbl := List.mem_append_right _ (List.mem_of_getElem? (i := 348) (by decide +kernel))
set_option maxRecDepth 100000 in
theorem kw_3 : ab_kw 3 ∈ lw_tbl := List.mem_append_right _ (List.mem_of_getElem? (i := 199) (by decide +kernel))
theorem im_3 : Cond.instanceMethod (ab_yn 3) ∈ lw_tbl := List.mem_append_right _ (List.mem_of_getElem? (i := 197) (by decide +kernel))
theorem se_3 : Cond.selects (ab_yn 3).cls (ab_yn 3) (ab_yn 3) ∈ lw_tbl := List.mem_append_right _ (List.mem_of_getElem? (i := 198) (by decide +kernel))
set_option maxRecDepth 100000 in
theorem kw_4 : ab_kw 4 ∈ lw_tbl := List.mem_append_right _ (List.mem_of_getElem? (i := 461) (by decide +kernel))
theorem im_4 : Cond.instanceMethod (ab_yn 4) ∈ lw_tbl := List.mem_append_right _ (List.mem_of_getElem? (i := 459) (by decide +kernel))
theorem se_4 : Cond.selects (ab_yn 4).cls (ab_yn 4) (ab_yn 4) ∈ lw_tbl := List.mem_append_right _ (List.mem_of_getElem? (i := 460) (by decide +kernel))
set_option maxRecDepth 100000 in
theorem kw_5 : ab_kw 5 ∈ lw_tbl := List.mem_append_right _ (List.mem_of_getElem? (i := 494) (by decide +kernel))
theorem im_5 : Cond.instanceMethod (ab_yn 5) ∈ lw_tbl := List.mem_append_right _ (List.mem_of_getElem? (i := 492) (by decide +kernel))
theorem se_5 : Cond.selects (ab_yn 5).cls (ab_yn 5) (ab_yn 5) ∈ lw_tbl := List.mem_append_right _ (List.mem_of_getElem? (i := 493) (by decide +kernel))
set_option maxRecDepth 100000 in
theorem kw_6 : ab_kw 6 ∈ lw_tbl := List.mem_append_right _ (List.mem_of_getElem? (i := 508) (by decide +kernel))
theorem im_6 : Cond.instanceMethod (ab_yn 6) ∈ lw_tbl := List.mem_append_right _ (List.mem_of_getElem? (i := 506) (by decide +kernel))
theorem se_6 : Cond.selects (ab_yn 6).cls (ab_yn 6) (ab_yn 6) ∈ lw_tbl := List.mem_append_right _ (List.mem_of_getElem? (i := 507) (by decide +kernel))
set_option maxRecDepth 100000 in
theorem kw_7 : ab_kw 7 ∈ lw_tbl := List.mem_append_right _ (List.mem_of_getElem? (i := 530) (by decide +kernel))
theorem im_7 : Cond.instanceMethod (ab_yn 7) ∈ lw_tbl := List.mem_append_right _ (List.mem_of_getElem? (i := 528) (by decide +kernel))
theorem se_7 : Cond.selects (ab_yn 7).cls (ab_yn 7) (ab_yn 7) ∈ lw_tbl := List.mem_append_right _ (List.mem_of_getElem? (i := 529) (by decide +kernel))
set_option maxRecDepth 100000 in
theorem kw_8 : ab_kw 8 ∈ lw_tbl := List.mem_append_right _ (List.mem_of_getElem? (i := 541) (by decide +kernel))
theorem im_8 : Cond.instanceMethod (ab_yn 8) ∈ lw_tbl := List.mem_append_right _ (List.mem_of_getElem? (i := 539) (by decide +kernel))
theorem se_8 : Cond.selects (ab_yn 8).cls (ab_yn 8) (ab_yn 8) ∈ lw_tbl := List.mem_append_right _ (List.mem_of_getElem? (i := 540) (by decide +kernel))
set_option maxRecDepth 100000 in
theorem kw_9 : ab_kw 9 ∈ lw_tbl := List.mem_append_right _ (List.mem_of_getElem? (i := 203) (by decide +kernel))
theorem im_9 : Cond.instanceMethod (ab_yn 9) ∈ lw_tbl := List.mem_append_right _ (List.mem_of_getElem? (i := 201) (by decide +kernel))
theorem se_9 : Cond.selects (ab_yn 9).cls (ab_yn 9) (ab_yn 9) ∈ lw_tbl := List.mem_append_right _ (List.mem_of_getElem? (i := 202) (by decide +kernel))
set_option maxRecDepth 100000 in
theorem kw_10 : ab_kw 10 ∈ lw_tbl := List.mem_append_right _ (List.mem_of_getElem? (i := 211) (by decide +kernel))
theorem im_10 : Cond.instanceMethod (ab_yn 10) ∈ lw_tbl := List.mem_append_right _ (List.mem_of_getElem? (i := 209) (by decide +kernel))
theorem se_10 : Cond.selects (ab_yn 10).cls (ab_yn 10) (ab_yn 10) ∈ lw_tbl := List.mem_append_right _ (List.mem_of_getElem? (i := 210) (by decide +kernel))
set_option maxRecDepth 100000 in
theorem kw_11 : ab_kw 11 ∈ lw_tbl := List.mem_append_right _ (List.mem_of_getElem? (i := 222) (by decide +kernel))
theorem im_11 : Cond.instanceMethod (ab_yn 11) ∈ lw_tbl := List.mem_append_right _ (List.mem_of_getElem? (i := 220) (by decide +kernel))
theorem se_11 : Cond.selects (ab_yn 11).cls (ab_yn 11) (ab_yn 11) ∈ lw_tbl := List.mem_append_right _ (List.mem_of_getElem? (i := 221) (by decide +kernel))
set_option maxRecDepth 100000 in
theorem kw_12 : ab_kw 12 ∈ lw_tbl := List.mem_append_right _ (List.mem_of_getElem? (i := 601) (by decide +kernel))
theorem im_12 : Cond.instanceMethod (ab_yn 12) ∈ lw_tbl := List.mem_append_right _ (List.mem_of_getElem? (i := 599) (by decide +kernel))
theorem se_12 : Cond.selects (ab_yn 12).cls (ab_yn 12) (ab_yn 12) ∈ lw_tbl := List.mem_append_right _ (List.mem_of_getElem? (i := 600) (by decide +kernel))
set_option maxRecDepth 100000 in
theorem kw_13 : ab_kw 13 ∈ lw_tbl := List.mem_append_right _ (List.mem_of_getElem? (i := 226) (by decide +kernel))
theorem im_13 : Cond.instanceMethod (ab_yn 13) ∈ lw_tbl := List.mem_append_right _ (List.mem_of_getElem? (i := 224) (by decide +kernel))
theorem se_13 : Cond.selects (ab_yn 13).cls (ab_yn 13) (ab_yn 13) ∈ lw_tbl := List.mem_append_right _ (List.mem_of_getElem? (i := 225) (by decide +kernel))
set_option maxRecDepth 100000 in
theorem kw_14 : ab_kw 14 ∈ lw_tbl := List.mem_append_right _ (List.mem_of_getElem? (i := 654) (by decide +kernel))
theorem im_14 : Cond.instanceMethod (ab_yn 14) ∈ lw_tbl := List.mem_append_right _ (List.mem_of_getElem? (i := 652) (by decide +kernel))
theorem se_14 : Cond.selects (ab_yn 14).cls (ab_yn 14) (ab_yn 14) ∈ lw_tbl := List.mem_append_right _ (List.mem_of_getElem? (i := 653) (by decide +kernel))
set_option maxRecDepth 100000 in
theorem kw_15 : ab_kw 15 ∈ lw_tbl := List.mem_append_right _ (List.mem_of_getElem? (i := 230) (by decide +kernel))
theorem im_15 : Cond.instanceMethod (ab_yn 15) ∈ lw_tbl := List.mem_append_right _ (List.mem_of_getElem? (i := 228) (by decide +kernel))
theorem se_15 : Cond.selects (ab_yn 15).cls (ab_yn 15) (ab_yn 15) ∈ lw_tbl := List.mem_append_right _ (List.mem_of_getElem? (i := 229) (by decide +kernel))
set_option maxRecDepth 100000 in
theorem kw_16 : ab_kw 16 ∈ lw_tbl := List.mem_append_right _ (List.mem_of_getElem? (i := 179) (by decide +kernel))
theorem im_16 : Cond.instanceMethod (ab_yn 16) ∈ lw_tbl := List.mem_append_right _ (List.mem_of_getElem? (i := 178) (by decide +kernel))
theorem se_16 : Cond.selects (ab_yn 16).cls (ab_yn 16) (ab_yn 16) ∈ lw_tbl := List.mem_append_left _ (List.mem_of_getElem? (i := 0) (by decide +kernel))
set_option maxRecDepth 100000 in
theorem kw_17 : ab_kw 17 ∈ lw_tbl := List.mem_append_right _ (List.mem_of_getElem? (i := 545) (by decide +kernel))
theorem im_17 : Cond.instanceMethod (ab_yn 17) ∈ lw_tbl := List.mem_append_right _ (List.mem_of_getElem? (i := 544) (by decide +kernel))
theorem se_17 : Cond.selects (ab_yn 17).cls (ab_yn 17) (ab_yn 17) ∈ lw_tbl := List.mem_append_left _ (List.mem_of_getElem? (i := 7) (by decide +kernel))
set_option maxRecDepth 100000 in
theorem kw_18 : ab_kw 18 ∈ lw_tbl := List.mem_append_right _ (List.mem_of_getElem? (i := 469) (by decide +kernel))
theorem im_18 : Cond.instanceMethod (ab_yn 18) ∈ lw_tbl := List.mem_append_right _ (List.mem_of_getElem? (i := 468) (by decide +kernel))
theorem se_18 : Cond.selects (ab_yn 18).cls (ab_yn 18) (ab_yn 18) ∈ lw_tbl := List.mem_append_left _ (List.mem_of_getElem? (i := 3) (by decide +kernel))
set_option maxRecDepth 100000 in
theorem kw_19 : ab_kw 19 ∈ lw_tbl := List.mem_append_right _ (List.mem_of_getElem? (i := 465) (by decide +kernel))
theorem im_19 : Cond.instanceMethod (ab_yn 19) ∈ lw_tbl := List.mem_append_right _ (List.mem_of_getElem? (i := 464) (by decide +kernel))
theorem se_19 : Cond.selects (ab_yn 19).cls (ab_yn 19) (ab_yn 19) ∈ lw_tbl := List.mem_append_left _ (List.mem_of_getElem? (i := 2) (by decide +kernel))
set_option maxRecDepth 100000 in
theorem kw_20 : ab_kw 20 ∈ lw_tbl := List.mem_append_right _ (List.mem_of_getElem? (i := 512) (by decide +kernel))
theorem im_20 : Cond.instanceMethod (ab_yn 20) ∈ lw_tbl := List.mem_append_right _ (List.mem_of_getElem? (i := 511) (by decide +kernel))
theorem se_20 : Cond.selects (ab_yn 20).cls (ab_yn 20) (ab_yn 20) ∈ lw_tbl := List.mem_append_left _ (List.mem_of_getElem? (i := 5) (by decide +kernel))
set_option maxRecDepth 100000 in
theorem kw_21 : ab_kw 21 ∈ lw_tbl := List.mem_append_right _ (List.mem_of_getElem? (i := 516) (by decide +kernel))
theorem im_21 : Cond.instanceMethod (ab_yn 21) ∈ lw_tbl := List.mem_append_right _ (List.mem_of_getElem? (i := 515) (by decide +kernel))
theorem se_21 : Cond.selects (ab_yn 21).cls (ab_yn 21) (ab_yn 21) ∈ lw_tbl := List.mem_append_left _ (List.mem_of_getElem? (i := 6) (by decide +kernel))
set_option maxRecDepth 100000 in
theorem kw_22 : ab_kw 22 ∈ lw_tbl := List.mem_append_right _ (List.mem_of_getElem? (i := 498) (by decide +kernel))
theorem im_22 : Cond.instanceMethod (ab_yn 22) ∈ lw_tbl := List.mem_append_right _ (List.mem_of_getElem? (i := 497) (by decide +kernel))
theorem se_22 : Cond.selects (ab_yn 22).cls (ab_yn 22) (ab_yn 22) ∈ lw_tbl := List.mem_append_left _ (List.mem_of_getElem? (i := 4) (by decide +kernel))
set_option maxRecDepth 100000 in
theorem kw_23 : ab_kw 23 ∈ lw_tbl := List.mem_append_right _ (List.mem_of_getElem? (i := 369) (by decide +kernel))
theorem sx_23 : Cond.static (ab_yn 23) ∈ lw_tbl := List.mem_append_right _ (List.mem_of_getElem? (i := 368) (by decide +kernel))
set_option maxRecDepth 100000 in
theorem kw_24 : ab_kw 24 ∈ lw_tbl := List.mem_append_right _ (List.mem_of_getElem? (i := 214) (by decide +kernel))
theorem sx_24 : Cond.static (ab_yn 24) ∈ lw_tbl := List.mem_append_right _ (List.mem_of_getElem? (i := 213) (by decide +kernel))
set_option maxRecDepth 100000 in
theorem kw_25 : ab_kw 25 ∈ lw_tbl := List.mem_append_right _ (List.mem_of_getElem? (i := 566) (by decide +kernel))
theorem sx_25 : Cond.static (ab_yn 25) ∈ lw_tbl := List.mem_append_right _ (List.mem_of_getElem? (i := 565) (by decide +kernel))
set_option maxRecDepth 100000 in
theorem kw_26 : ab_kw 26 ∈ lw_tbl := List.mem_append_right _ (List.mem_of_getElem? (i := 376) (by decide +kernel))
theorem sx_26 : Cond.static (ab_yn 26) ∈ lw_tbl := List.mem_append_right _ (List.mem_of_getElem? (i := 375) (by decide +kernel))
set_option maxRecDepth 100000 in
theorem kw_27 : ab_kw 27 ∈ lw_tbl := List.mem_append_right _ (List.mem_of_getElem? (i := 384) (by decide +kernel))
theorem sx_27 : Cond.static (ab_yn 27) ∈ lw_tbl := List.mem_append_right _ (List.mem_of_getElem? (i := 383) (by decide +kernel))
set_option maxRecDepth 100000 in
theorem kw_28 : ab_kw 28 ∈ lw_tbl := List.mem_append_right _ (List.mem_of_getElem? (i := 758) (by decide +kernel))
theorem im_28 : Cond.instanceMethod (ab_yn 28) ∈ lw_tbl := List.mem_append_right _ (List.mem_of_getElem? (i := 756) (by decide +kernel))
theorem se_28 : Cond.selects (ab_yn 28).cls (ab_yn 28) (ab_yn 28) ∈ lw_tbl := List.mem_append_right _ (List.mem_of_getElem? (i := 757) (by decide +kernel))
set_option maxRecDepth 100000 in
theorem kw_29 : ab_kw 29 ∈ lw_tbl := List.mem_append_right _ (List.mem_of_getElem? (i := 766) (by decide +kernel))
theorem im_29 : Cond.instanceMethod (ab_yn 29) ∈ lw_tbl := List.mem_append_right _ (List.mem_of_getElem? (i := 765) (by decide +kernel))
theorem se_29 : Cond.selects (ab_yn 29).cls (ab_yn 29) (ab_yn 29) ∈ lw_tbl := List.mem_append_left _ (List.mem_of_getElem? (i := 8) (by decide +kernel))
set_option maxRecDepth 100000 in
theorem kw_30 : ab_kw 30 ∈ lw_tbl := List.mem_append_right _ (List.mem_of_getElem? (i := 774) (by decide +kernel))
theorem im_30 : Cond.instanceMethod (ab_yn 30) ∈ lw_tbl := List.mem_append_right _ (List.mem_of_getElem? (i := 773) (by decide +kernel))
theorem se_30 : Cond.selects (ab_yn 30).cls (ab_yn 30) (ab_yn 30) ∈ lw_tbl := List.mem_append_left _ (List.mem_of_getElem? (i := 10) (by decide +kernel))
set_option maxRecDepth 100000 in
theorem kw_31 : ab_kw 31 ∈ lw_tbl := List.mem_append_right _ (List.mem_of_getElem? (i := 778) (by decide +kernel))
theorem im_31 : Cond.instanceMethod (ab_yn 31) ∈ lw_tbl := List.mem_append_right _ (List.mem_of_getElem? (i := 777) (by decide +kernel))
theorem se_31 : Cond.selects (ab_yn 31).cls (ab_yn 31) (ab_yn 31) ∈ lw_tbl := List.mem_append_left _ (List.mem_of_getElem? (i := 11) (by decide +kernel))
set_option maxRecDepth 100000 in
theorem kw_32 : ab_kw 32 ∈ lw_tbl := List.mem_append_right _ (List.mem_of_getElem? (i := 762) (by decide +kernel))
theorem im_32 : Cond.instanceMethod (ab_yn 32) ∈ lw_tbl := List.mem_append_right _ (List.mem_of_getElem? (i := 760) (by decide +kernel))
theorem se_32 : Cond.selects (ab_yn 32).cls (ab_yn 32) (ab_yn 32) ∈ lw_tbl := List.mem_append_right _ (List.mem_of_getElem? (i := 761) (by decide +kernel))
set_option maxRecDepth 100000 in
theorem kw_33 : ab_kw 33 ∈ lw_tbl := List.mem_append_right _ (List.mem_of_getElem? (i := 770) (by decide +kernel))
theorem im_33 : Cond.instanceMethod (ab_yn 33) ∈ lw_tbl := List.mem_append_right _ (List.mem_of_getElem? (i := 769) (by decide +kernel))
theorem se_33 : Cond.selects (ab_yn 33).cls (ab_yn 33) (ab_yn 33) ∈ lw_tbl := List.mem_append_left _ (List.mem_of_getElem? (i := 9) (by decide +kernel))
set_option maxRecDepth 100000 in
theorem kw_34 : ab_kw 34 ∈ lw_tbl := List.mem_append_right _ (List.mem_of_getElem? (i := 782) (by decide +kernel))
theorem im_34 : Cond.instanceMethod (ab_yn 34) ∈ lw_tbl := List.mem_append_right _ (List.mem_of_getElem? (i := 780) (by decide +kernel))
theorem se_34 : Cond.selects (ab_yn 34).cls (ab_yn 34) (ab_yn 34) ∈ lw_tbl := List.mem_append_right _ (List.mem_of_getElem? (i := 781) (by decide +kernel))
set_option maxRecDepth 100000 in
theorem kw_35 : ab_kw 35 ∈ lw_tbl := List.mem_append_right _ (List.mem_of_getElem? (i := 802) (by decide +kernel))
theorem im_35 : Cond.instanceMethod (ab_yn 35) ∈ lw_tbl := List.mem_append_right _ (List.mem_of_getElem? (i := 801) (by decide +kernel))
theorem se_35 : Cond.selects (ab_yn 35).cls (ab_yn 35) (ab_yn 35) ∈ lw_tbl := List.mem_append_left _ (List.mem_of_getElem? (i := 15) (by decide +kernel))
set_option maxRecDepth 100000 in
theorem kw_36 : ab_kw 36 ∈ lw_tbl := List.mem_append_right _ (List.mem_of_getElem? (i := 798) (by decide +kernel))
theorem im_36 : Cond.instanceMethod (ab_yn 36) ∈ lw_tbl := List.mem_append_right _ (List.mem_of_getElem? (i := 797) (by decide +kernel))
theorem se_36 : Cond.selects (ab_yn 36).cls (ab_yn 36) (ab_yn 36) ∈ lw_tbl := List.mem_append_left _ (List.mem_of_getElem? (i := 14) (by decide +kernel))
set_option maxRecDepth 100000 in
theorem kw_37 : ab_kw 37 ∈ lw_tbl := List.mem_append_right _ (List.mem_of_getElem? (i := 806) (by decide +kernel))
theorem im_37 : Cond.instanceMethod (ab_yn 37) ∈ lw_tbl := List.mem_append_right _ (List.mem_of_getElem? (i := 805) (by decide +kernel))
theorem se_37 : Cond.selects (ab_yn 37).cls (ab_yn 37) (ab_yn 37) ∈ lw_tbl := List.mem_append_left _ (List.mem_of_getElem? (i := 16) (by decide +kernel))
set_option maxRecDepth 100000 in
theorem kw_38 : ab_kw 38 ∈ lw_tbl := List.mem_append_right _ (List.mem_of_getElem? (i := 794) (by decide +kernel))
theorem im_38 : Cond.instanceMethod (ab_yn 38) ∈ lw_tbl := List.mem_append_right _ (List.mem_of_getElem? (i := 793) (by decide +kernel))
theorem se_38 : Cond.selects (ab_yn 38).cls (ab_yn 38) (ab_yn 38) ∈ lw_tbl := List.mem_append_left _ (List.mem_of_getElem? (i := 13) (by decide +kernel))
set_option maxRecDepth 100000 in
theorem kw_39 : ab_kw 39 ∈ lw_tbl := List.mem_append_right _ (List.mem_of_getElem? (i := 790) (by decide +kernel))
theorem im_39 : Cond.instanceMethod (ab_yn 39) ∈ lw_tbl := List.mem_append_right _ (List.mem_of_getElem? (i := 789) (by decide +kernel))
theorem se_39 : Cond.selects (ab_yn 39).cls (ab_yn 39) (ab_yn 39) ∈ lw_tbl := List.mem_append_left _ (List.mem_of_getElem? (i := 12) (by decide +kernel))
set_option maxRecDepth 100000 in
theorem kw_40 : ab_kw 40 ∈ lw_tbl := List.mem_append_right _ (List.mem_of_getElem? (i := 825) (by decide +kernel))
theorem im_40 : Cond.instanceMethod (ab_yn 40) ∈ lw_tbl := List.mem_append_right _ (List.mem_of_getElem? (i := 824) (by decide +kernel))
theorem se_40 : Cond.selects (ab_yn 40).cls (ab_yn 40) (ab_yn 40) ∈ lw_tbl := List.mem_append_left _ (List.mem_of_getElem? (i := 20) (by decide +kernel))
set_option maxRecDepth 100000 in
theorem kw_41 : ab_kw 41 ∈ lw_tbl := List.mem_append_right _ (List.mem_of_getElem? (i := 813) (by decide +kernel))
theorem sx_41 : Cond.static (ab_yn 41) ∈ lw_tbl := List.mem_append_right _ (List.mem_of_getElem? (i := 812) (by decide +kernel))
set_option maxRecDepth 100000 in
theorem kw_42 : ab_kw 42 ∈ lw_tbl := List.mem_append_right _ (List.mem_of_getElem? (i := 868) (by decide +kernel))
theorem im_42 : Cond.instanceMethod (ab_yn 42) ∈ lw_tbl := List.mem_append_right _ (List.mem_of_getElem? (i := 867) (by decide +kernel))
theorem se_42 : Cond.selects (ab_yn 42).cls (ab_yn 42) (ab_yn 42) ∈ lw_tbl := List.mem_append_left _ (List.mem_of_getElem? (i := 26) (by decide +kernel))
set_option maxRecDepth 100000 in
theorem kw_43 : ab_kw 43 ∈ lw_tbl := List.mem_append_right _ (List.mem_of_getElem? (i := 817) (by decide +kernel))
theorem im_43 : Cond.instanceMethod (ab_yn 43) ∈ lw_tbl := List.mem_append_right _ (List.mem_of_getElem? (i := 816) (by decide +kernel))
theorem se_43 : Cond.selects (ab_yn 43).cls (ab_yn 43) (ab_yn 43) ∈ lw_tbl := List.mem_append_left _ (List.mem_of_getElem? (i := 18) (by decide +kernel))
set_option maxRecDepth 100000 in
theorem kw_44 : ab_kw 44 ∈ lw_tbl := List.mem_append_right _ (List.mem_of_getElem? (i := 810) (by decide +kernel))
theorem im_44 : Cond.instanceMethod (ab_yn 44) ∈ lw_tbl := List.mem_append_right _ (List.mem_of_getElem? (i := 809) (by decide +kernel))
theorem se_44 : Cond.selects (ab_yn 44).cls (ab_yn 44) (ab_yn 44) ∈ lw_tbl := List.mem_append_left _ (List.mem_of_getElem? (i := 17) (by decide +kernel))
set_option maxRecDepth 100000 in
theorem kw_45 : ab_kw 45 ∈ lw_tbl := List.mem_append_right _ (List.mem_of_getElem? (i := 821) (by decide +kernel))
theorem im_45 : Cond.instanceMethod (ab_yn 45) ∈ lw_tbl := List.mem_append_right _ (List.mem_of_getElem? (i := 820) (by decide +kernel))
theorem se_45 : Cond.selects (ab_yn 45).cls (ab_yn 45) (ab_yn 45) ∈ lw_tbl := List.mem_append_left _ (List.mem_of_getElem? (i := 19) (by decide +kernel))
set_option maxRecDepth 100000 in
theorem kw_46 : ab_kw 46 ∈ lw_tbl := List.mem_append_right _ (List.mem_of_getElem? (i := 829) (by decide +kernel))
theorem im_46 : Cond.instanceMethod (ab_yn 46) ∈ lw_tbl := List.mem_append_right _ (List.mem_of_getElem? (i := 828) (by decide +kernel))
theorem se_46 : Cond.selects (ab_yn 46).cls (ab_yn 46) (ab_yn 46) ∈ lw_tbl := List.mem_append_left _ (List.mem_of_getElem? (i := 21) (by decide +kernel))
set_option maxRecDepth 100000 in
theorem kw_47 : ab_kw 47 ∈ lw_tbl := List.mem_append_right _ (List.mem_of_getElem? (i := 833) (by decide +kernel))
theorem im_47 : Cond.instanceMethod (ab_yn 47) ∈ lw_tbl := List.mem_append_right _ (List.mem_of_getElem? (i := 832) (by decide +kernel))
theorem se_47 : Cond.selects (ab_yn 47).cls (ab_yn 47) (ab_yn 47) ∈ lw_tbl := List.mem_append_left _ (List.mem_of_getElem? (i := 22) (by decide +kernel))
set_option maxRecDepth 100000 in
theorem kw_48 : ab_kw 48 ∈ lw_tbl := List.mem_append_right _ (List.mem_of_getElem? (i := 837) (by decide +kernel))
theorem im_48 : Cond.instanceMethod (ab_yn 48) ∈ lw_tbl := List.mem_append_right _ (List.mem_of_getElem? (i := 836) (by decide +kernel))
theorem se_48 : Cond.selects (ab_yn 48).cls (ab_yn 48) (ab_yn 48) ∈ lw_tbl := List.mem_append_left _ (List.mem_of_getElem? (i := 23) (by decide +kernel))
set_option maxRecDepth 100000 in
theorem kw_49 : ab_kw 49 ∈ lw_tbl := List.mem_append_right _ (List.mem_of_getElem? (i := 786) (by decide +kernel))
theorem im_49 : Cond.instanceMethod (ab_yn 49) ∈ lw_tbl := List.mem_append_right _ (List.mem_of_getElem? (i := 784) (by decide +kernel))
theorem se_49 : Cond.selects (ab_yn 49).cls (ab_yn 49) (ab_yn 49) ∈ lw_tbl := List.mem_append_right _ (List.mem_of_getElem? (i := 785) (by decide +kernel))
set_option maxRecDepth 100000 in
theorem kw_50 : ab_kw 50 ∈ lw_tbl := List.mem_append_right _ (List.mem_of_getElem? (i := 841) (by decide +kernel))
theorem im_50 : Cond.instanceMethod (ab_yn 50) ∈ lw_tbl := List.mem_append_right _ (List.mem_of_getElem? (i := 839) (by decide +kernel))
theorem se_50 : Cond.selects (ab_yn 50).cls (ab_yn 50) (ab_yn 50) ∈ lw_tbl := List.mem_append_right _ (List.mem_of_getElem? (i := 840) (by decide +kernel))
set_option maxRecDepth 100000 in
theorem kw_51 : ab_kw 51 ∈ lw_tbl := List.mem_append_right _ (List.mem_of_getElem? (i := 849) (by decide +kernel))
theorem im_51 : Cond.instanceMethod (ab_yn 51) ∈ lw_tbl := List.mem_append_right _ (List.mem_of_getElem? (i := 848) (by decide +kernel))
theorem se_51 : Cond.selects (ab_yn 51).cls (ab_yn 51) (ab_yn 51) ∈ lw_tbl := List.mem_append_left _ (List.mem_of_getElem? (i := 24) (by decide +kernel))
set_option maxRecDepth 100000 in
theorem kw_52 : ab_kw 52 ∈ lw_tbl := List.mem_append_right _ (List.mem_of_getElem? (i := 852) (by decide +kernel))
theorem sx_52 : Cond.static (ab_yn 52) ∈ lw_tbl := List.mem_append_right _ (List.mem_of_getElem? (i := 851) (by decide +kernel))
set_option maxRecDepth 100000 in
theorem kw_53 : ab_kw 53 ∈ lw_tbl := List.mem_append_right _ (List.mem_of_getElem? (i := 845) (by decide +kernel))
theorem im_53 : Cond.instanceMethod (ab_yn 53) ∈ lw_tbl := List.mem_append_right _ (List.mem_of_getElem? (i := 843) (by decide +kernel))
theorem se_53 : Cond.selects (ab_yn 53).cls (ab_yn 53) (ab_yn 53) ∈ lw_tbl := List.mem_append_right _ (List.mem_of_getElem? (i := 844) (by decide +kernel))
set_option maxRecDepth 100000 in
theorem kw_54 : ab_kw 54 ∈ lw_tbl := List.mem_append_right _ (List.mem_of_getElem? (i := 856) (by decide +kernel))
theorem im_54 : Cond.instanceMethod (ab_yn 54) ∈ lw_tbl := List.mem_append_right _ (List.mem_of_getElem? (i := 854) (by decide +kernel))
theorem se_54 : Cond.selects (ab_yn 54).cls (ab_yn 54) (ab_yn 54) ∈ lw_tbl := List.mem_append_right _ (List.mem_of_getElem? (i := 855) (by decide +kernel))
set_option maxRecDepth 100000 in
theorem kw_55 : ab_kw 55 ∈ lw_tbl := List.mem_append_right _ (List.mem_of_getElem? (i := 864) (by decide +kernel))
theorem im_55 : Cond.instanceMethod (ab_yn 55) ∈ lw_tbl := List.mem_append_right _ (List.mem_of_getElem? (i := 863) (by decide +kernel))
theorem se_55 : Cond.selects (ab_yn 55).cls (ab_yn 55) (ab_yn 55) ∈ lw_tbl := List.mem_append_left _ (List.mem_of_getElem? (i := 25) (by decide +kernel))
set_option maxRecDepth 100000 in
theorem kw_56 : ab_kw 56 ∈ lw_tbl := List.mem_append_right _ (List.mem_of_getElem? (i := 860) (by decide +kernel))
theorem im_56 : Cond.instanceMethod (ab_yn 56) ∈ lw_tbl := List.mem_append_right _ (List.mem_of_getElem? (i := 858) (by decide +kernel))
theorem se_56 : Cond.selects (ab_yn 56).cls (ab_yn 56) (ab_yn 56) ∈ lw_tbl := List.mem_append_right _ (List.mem_of_getElem? (i := 859) (by decide +kernel))
set_option maxRecDepth 100000 in
theorem kw_57 : ab_kw 57 ∈ lw_tbl := List.mem_append_right _ (List.mem_of_getElem? (i := 872) (by decide +kernel))
theorem im_57 : Cond.instanceMethod (ab_yn 57) ∈ lw_tbl := List.mem_append_right _ (List.mem_of_getElem? (i := 870) (by decide +kernel))
theorem se_57 : Cond.selects (ab_yn 57).cls (ab_yn 57) (ab_yn 57) ∈ lw_tbl := List.mem_append_right _ (List.mem_of_getElem? (i := 871) (by decide +kernel))
set_option maxRecDepth 100000 in
theorem kw_58 : ab_kw 58 ∈ lw_tbl := List.mem_append_right _ (List.mem_of_getElem? (i := 888) (by decide +kernel))
theorem im_58 : Cond.instanceMethod (ab_yn 58) ∈ lw_tbl := List.mem_append_right _ (List.mem_of_getElem? (i := 887) (by decide +kernel))
theorem se_58 : Cond.selects (ab_yn 58).cls (ab_yn 58) (ab_yn 58) ∈ lw_tbl := List.mem_append_left _ (List.mem_of_getElem? (i := 29) (by decide +kernel))
set_option maxRecDepth 100000 in
theorem kw_59 : ab_kw 59 ∈ lw_tbl := List.mem_append_right _ (List.mem_of_getElem? (i := 904) (by decide +kernel))
theorem im_59 : Cond.instanceMethod (ab_yn 59) ∈ lw_tbl := List.mem_append_right _ (List.mem_of_getElem? (i := 903) (by decide +kernel))
theorem se_59 : Cond.selects (ab_yn 59).cls (ab_yn 59) (ab_yn 59) ∈ lw_tbl := List.mem_append_left _ (List.mem_of_getElem? (i := 33) (by decide +kernel))
set_option maxRecDepth 100000 in
theorem kw_60 : ab_kw 60 ∈ lw_tbl := List.mem_append_right _ (List.mem_of_getElem? (i := 900) (by decide +kernel))
theorem im_60 : Cond.instanceMethod (ab_yn 60) ∈ lw_tbl := List.mem_append_right _ (List.mem_of_getElem? (i := 899) (by decide +kernel))
theorem se_60 : Cond.selects (ab_yn 60).cls (ab_yn 60) (ab_yn 60) ∈ lw_tbl := List.mem_append_left _ (List.mem_of_getElem? (i := 32) (by decide +kernel))
set_option maxRecDepth 100000 in
theorem kw_61 : ab_kw 61 ∈ lw_tbl := List.mem_append_right _ (List.mem_of_getElem? (i := 896) (by decide +kernel))
theorem im_61 : Cond.instanceMethod (ab_yn 61) ∈ lw_tbl := List.mem_append_right _ (List.mem_of_getElem? (i := 895) (by decide +kernel))
theorem se_61 : Cond.selects (ab_yn 61).cls (ab_yn 61) (ab_yn 61) ∈ lw_tbl := List.mem_append_left _ (List.mem_of_getElem? (i := 31) (by decide +kernel))
set_option maxRecDepth 100000 in
theorem kw_62 : ab_kw 62 ∈ lw_tbl := List.mem_append_right _ (List.mem_of_getElem? (i := 884) (by decide +kernel))
theorem im_62 : Cond.instanceMethod (ab_yn 62) ∈ lw_tbl := List.mem_append_right _ (List.mem_of_getElem? (i := 883) (by decide +kernel))
theorem se_62 : Cond.selects (ab_yn 62).cls (ab_yn 62) (ab_yn 62) ∈ lw_tbl := List.mem_append_left _ (List.mem_of_getElem? (i := 28) (by decide +kernel))
set_option maxRecDepth 100000 in
theorem kw_63 : ab_kw 63 ∈ lw_tbl := List.mem_append_right _ (List.mem_of_getElem? (i := 892) (by decide +kernel))
theorem im_63 : Cond.instanceMethod (ab_yn 63) ∈ lw_tbl := List.mem_append_right _ (List.mem_of_getElem? (i := 891) (by decide +kernel))
theorem se_63 : Cond.selects (ab_yn 63).cls (ab_yn 63) (ab_yn 63) ∈ lw_tbl := List.mem_append_left _ (List.mem_of_getElem? (i := 30) (by decide +kernel))
set_option maxRecDepth 100000 in
theorem kw_64 : ab_kw 64 ∈ lw_tbl := List.mem_append_right _ (List.mem_of_getElem? (i := 880) (by decide +kernel))
theorem im_64 : Cond.instanceMethod (ab_yn 64) ∈ lw_tbl := List.mem_append_right _ (List.mem_of_getElem? (i := 879) (by decide +kernel))
theorem se_64 : Cond.selects (ab_yn 64).cls (ab_yn 64) (ab_yn 64) ∈ lw_tbl := List.mem_append_left _ (List.mem_of_getElem? (i := 27) (by decide +kernel))
set_option maxRecDepth 100000 in
theorem kw_65 : ab_kw 65 ∈ lw_tbl := List.mem_append_right _ (List.mem_of_getElem? (i := 876) (by decide +kernel))
theorem im_65 : Cond.instanceMethod (ab_yn 65) ∈ lw_tbl := List.mem_append_right _ (List.mem_of_getElem? (i := 874) (by decide +kernel))
theorem se_65 : Cond.selects (ab_yn 65).cls (ab_yn 65) (ab_yn 65) ∈ lw_tbl := List.mem_append_right _ (List.mem_of_getElem? (i := 875) (by decide +kernel))
set_option maxRecDepth 100000 in
theorem kw_66 : ab_kw 66 ∈ lw_tbl := List.mem_append_right _ (List.mem_of_getElem? (i := 908) (by decide +kernel))
theorem im_66 : Cond.instanceMethod (ab_yn 66) ∈ lw_tbl := List.mem_append_right _ (List.mem_of_getElem? (i := 906) (by decide +kernel))
theorem se_66 : Cond.selects (ab_yn 66).cls (ab_yn 66) (ab_yn 66) ∈ lw_tbl := List.mem_append_right _ (List.mem_of_getElem? (i := 907) (by decide +kernel))
set_option maxRecDepth 100000 in
theorem kw_67 : ab_kw 67 ∈ lw_tbl := List.mem_append_right _ (List.mem_of_getElem? (i := 912) (by decide +kernel))
theorem im_67 : Cond.instanceMethod (ab_yn 67) ∈ lw_tbl := List.mem_append_right _ (List.mem_of_getElem? (i := 910) (by decide +kernel))
theorem se_67 : Cond.selects (ab_yn 67).cls (ab_yn 67) (ab_yn 67) ∈ lw_tbl := List.mem_append_right _ (List.mem_of_getElem? (i := 911) (by decide +kernel))
set_option maxRecDepth 100000 in
theorem kw_68 : ab_kw 68 ∈ lw_tbl := List.mem_append_right _ (List.mem_of_getElem? (i := 916) (by decide +kernel))
theorem im_68 : Cond.instanceMethod (ab_yn 68) ∈ lw_tbl := List.mem_append_right _ (List.mem_of_getElem? (i := 914) (by decide +kernel))
theorem se_68 : Cond.selects (ab_yn 68).cls (ab_yn 68) (ab_yn 68) ∈ lw_tbl := List.mem_append_right _ (List.mem_of_getElem? (i := 915) (by decide +kernel))
set_option maxRecDepth 100000 in
theorem kw_69 : ab_kw 69 ∈ lw_tbl := List.mem_append_right _ (List.mem_of_getElem? (i := 932) (by decide +kernel))
theorem im_69 : Cond.instanceMethod (ab_yn 69) ∈ lw_tbl := List.mem_append_right _ (List.mem_of_getElem? (i := 931) (by decide +kernel))
theorem se_69 : Cond.selects (ab_yn 69).cls (ab_yn 69) (ab_yn 69) ∈ lw_tbl := List.mem_append_left _ (List.mem_of_getElem? (i := 36) (by decide +kernel))
set_option maxRecDepth 100000 in
theorem kw_70 : ab_kw 70 ∈ lw_tbl := List.mem_append_right _ (List.mem_of_getElem? (i := 936) (by decide +kernel))
theorem im_70 : Cond.instanceMethod (ab_yn 70) ∈ lw_tbl := List.mem_append_right _ (List.mem_of_getElem? (i := 935) (by decide +kernel))
theorem se_70 : Cond.selects (ab_yn 70).cls (ab_yn 70) (ab_yn 70) ∈ lw_tbl := List.mem_append_left _ (List.mem_of_getElem? (i := 37) (by decide +kernel))
set_option maxRecDepth 100000 in
theorem kw_71 : ab_kw 71 ∈ lw_tbl := List.mem_append_right _ (List.mem_of_getElem? (i := 928) (by decide +kernel))
theorem im_71 : Cond.instanceMethod (ab_yn 71) ∈ lw_tbl := List.mem_append_right _ (List.mem_of_getElem? (i := 927) (by decide +kernel))
theorem se_71 : Cond.selects (ab_yn 71).cls (ab_yn 71) (ab_yn 71) ∈ lw_tbl := List.mem_append_left _ (List.mem_of_getElem? (i := 35) (by decide +kernel))
set_option maxRecDepth 100000 in
theorem kw_72 : ab_kw 72 ∈ lw_tbl := List.mem_append_right _ (List.mem_of_getElem? (i := 940) (by decide +kernel))
theorem im_72 : Cond.instanceMethod (ab_yn 72) ∈ lw_tbl := List.mem_append_right _ (List.mem_of_getElem? (i := 939) (by decide +kernel))
theorem se_72 : Cond.selects (ab_yn 72).cls (ab_yn 72) (ab_yn 72) ∈ lw_tbl := List.mem_append_left _ (List.mem_of_getElem? (i := 38) (by decide +kernel))
set_option maxRecDepth 100000 in
theorem kw_73 : ab_kw 73 ∈ lw_tbl := List.mem_append_right _ (List.mem_of_getElem? (i := 924) (by decide +kernel))
theorem im_73 : Cond.instanceMethod (ab_yn 73) ∈ lw_tbl := List.mem_append_right _ (List.mem_of_getElem? (i := 923) (by decide +kernel))
theorem se_73 : Cond.selects (ab_yn 73).cls (ab_yn 73) (ab_yn 73) ∈ lw_tbl := List.mem_append_left _ (List.mem_of_getElem? (i := 34) (by decide +kernel))
set_option maxRecDepth 100000 in
theorem kw_74 : ab_kw 74 ∈ lw_tbl := List.mem_append_right _ (List.mem_of_getElem? (i := 920) (by decide +kernel))
theorem im_74 : Cond.instanceMethod (ab_yn 74) ∈ lw_tbl := List.mem_append_right _ (List.mem_of_getElem? (i := 918) (by decide +kernel))
theorem se_74 : Cond.selects (ab_yn 74).cls (ab_yn 74) (ab_yn 74) ∈ lw_tbl := List.mem_append_right _ (List.mem_of_getElem? (i := 919) (by decide +kernel))
set_option maxRecDepth 100000 in
theorem kw_75 : ab_kw 75 ∈ lw_tbl := List.mem_append_right _ (List.mem_of_getElem? (i := 944) (by decide +kernel))
theorem im_75 : Cond.instanceMethod (ab_yn 75) ∈ lw_tbl := List.mem_append_right _ (List.mem_of_getElem? (i := 942) (by decide +kernel))
theorem se_75 : Cond.selects (ab_yn 75).cls (ab_yn 75) (ab_yn 75) ∈ lw_tbl := List.mem_append_right _ (List.mem_of_getElem? (i := 943) (by decide +kernel))
set_option maxRecDepth 100000 in
theorem kw_76 : ab_kw 76 ∈ lw_tbl := List.mem_append_right _ (List.mem_of_getElem? (i := 948) (by decide +kernel))
theorem im_76 : Cond.instanceMethod (ab_yn 76) ∈ lw_tbl := List.mem_append_right _ (List.mem_of_getElem? (i := 946) (by decide +kernel))
theorem se_76 : Cond.selects (ab_yn 76).cls (ab_yn 76) (ab_yn 76) ∈ lw_tbl := List.mem_append_right _ (List.mem_of_getElem? (i := 947) (by decide +kernel))
set_option maxRecDepth 100000 in
theorem kw_77 : ab_kw 77 ∈ lw_tbl := List.mem_append_right _ (List.mem_of_getElem? (i := 952) (by decide +kernel))
theorem im_77 : Cond.instanceMethod (ab_yn 77) ∈ lw_tbl := List.mem_append_right _ (List.mem_of_getElem? (i := 950) (by decide +kernel))
theorem se_77 : Cond.selects (ab_yn 77).cls (ab_yn 77) (ab_yn 77) ∈ lw_tbl := List.mem_append_right _ (List.mem_of_getElem? (i := 951) (by decide +kernel))
set_option maxRecDepth 100000 in
theorem kw_78 : ab_kw 78 ∈ lw_tbl := List.mem_append_right _ (List.mem_of_getElem? (i := 437) (by decide +kernel))
theorem im_78 : Cond.instanceMethod (ab_yn 78) ∈ lw_tbl := List.mem_append_right _ (List.mem_of_getElem? (i := 435) (by decide +kernel))
theorem se_78 : Cond.selects (ab_yn 78).cls (ab_yn 78) (ab_yn 78) ∈ lw_tbl := List.mem_append_right _ (List.mem_of_getElem? (i := 436) (by decide +kernel))
set_option maxRecDepth 100000 in
theorem kw_79 : ab_kw 79 ∈ lw_tbl := List.mem_append_right _ (List.mem_of_getElem? (i := 415) (by decide +kernel))
theorem im_79 : Cond.instanceMethod (ab_yn 79) ∈ lw_tbl := List.mem_append_right _ (List.mem_of_getElem? (i := 413) (by decide +kernel))
theorem se_79 : Cond.selects (ab_yn 79).cls (ab_yn 79) (ab_yn 79) ∈ lw_tbl := List.mem_append_right _ (List.mem_of_getElem? (i := 414) (by decide +kernel))
set_option maxRecDepth 100000 in
theorem kw_80 : ab_kw 80 ∈ lw_tbl := List.mem_append_right _ (List.mem_of_getElem? (i := 427) (by decide +kernel))
theorem im_80 : Cond.instanceMethod (ab_yn 80) ∈ lw_tbl := List.mem_append_right _ (List.mem_of_getElem? (i := 425) (by decide +kernel))
theorem se_80 : Cond.selects (ab_yn 80).cls (ab_yn 80) (ab_yn 80) ∈ lw_tbl := List.mem_append_right _ (List.mem_of_getElem? (i := 426) (by decide +kernel))
set_option maxRecDepth 100000 in
theorem kw_81 : ab_kw 81 ∈ lw_tbl := List.mem_append_right _ (List.mem_of_getElem? (i := 521) (by decide +kernel))
theorem im_81 : Cond.instanceMethod (ab_yn 81) ∈ lw_tbl := List.mem_append_right _ (List.mem_of_getElem? (i := 519) (by decide +kernel))
theorem se_81 : Cond.selects (ab_yn 81).cls (ab_yn 81) (ab_yn 81) ∈ lw_tbl := List.mem_append_right _ (List.mem_of_getElem? (i := 520) (by decide +kernel))
set_option maxRecDepth 100000 in
theorem kw_82 : ab_kw 82 ∈ lw_tbl := List.mem_append_right _ (List.mem_of_getElem? (i := 534) (by decide +kernel))
theorem im_82 : Cond.instanceMethod (ab_yn 82) ∈ lw_tbl := List.mem_append_right _ (List.mem_of_getElem? (i := 532) (by decide +kernel))
theorem se_82 : Cond.selects (ab_yn 82).cls (ab_yn 82) (ab_yn 82) ∈ lw_tbl := List.mem_append_right _ (List.mem_of_getElem? (i := 533) (by decide +kernel))
set_option maxRecDepth 100000 in
theorem kw_83 : ab_kw 83 ∈ lw_tbl := List.mem_append_right _ (List.mem_of_getElem? (i := 408) (by decide +kernel))
theorem im_83 : Cond.instanceMethod (ab_yn 83) ∈ lw_tbl := List.mem_append_right _ (List.mem_of_getElem? (i := 406) (by decide +kernel))
theorem se_83 : Cond.selects (ab_yn 83).cls (ab_yn 83) (ab_yn 83) ∈ lw_tbl := List.mem_append_right _ (List.mem_of_getElem? (i := 407) (by decide +kernel))
set_option maxRecDepth 100000 in
theorem kw_84 : ab_kw 84 ∈ lw_tbl := List.mem_append_right _ (List.mem_of_getElem? (i := 404) (by decide +kernel))
theorem im_84 : Cond.instanceMethod (ab_yn 84) ∈ lw_tbl := List.mem_append_right _ (List.mem_of_getElem? (i := 402) (by decide +kernel))
theorem se_84 : Cond.selects (ab_yn 84).cls (ab_yn 84) (ab_yn 84) ∈ lw_tbl := List.mem_append_right _ (List.mem_of_getElem? (i := 403) (by decide +kernel))
set_option maxRecDepth 100000 in
theorem kw_85 : ab_kw 85 ∈ lw_tbl := List.mem_append_right _ (List.mem_of_getElem? (i := 354) (by decide +kernel))
theorem im_85 : Cond.instanceMethod (ab_yn 85) ∈ lw_tbl := List.mem_append_right _ (List.mem_of_getElem? (i := 352) (by decide +kernel))
theorem se_85 : Cond.selects (ab_yn 85).cls (ab_yn 85) (ab_yn 85) ∈ lw_tbl := List.mem_append_right _ (List.mem_of_getElem? (i := 353) (by decide +kernel))
set_option maxRecDepth 100000 in
theorem kw_86 : ab_kw 86 ∈ lw_tbl := List.mem_append_right _ (List.mem_of_getElem? (i := 419) (by decide +kernel))
theorem im_86 : Cond.instanceMethod (ab_yn 86) ∈ lw_tbl := List.mem_append_right _ (List.mem_of_getElem? (i := 417) (by decide +kernel))
theorem se_86 : Cond.selects (ab_yn 86).cls (ab_yn 86) (ab_yn 86) ∈ lw_tbl := List.mem_append_right _ (List.mem_of_getElem? (i := 418) (by decide +kernel))
set_option maxRecDepth 100000 in
theorem kw_87 : ab_kw 87 ∈ lw_tbl := List.mem_append_right _ (List.mem_of_getElem? (i := 423) (by decide +kernel))
theorem im_87 : Cond.instanceMethod (ab_yn 87) ∈ lw_tbl := List.mem_append_right _ (List.mem_of_getElem? (i := 421) (by decide +kernel))
theorem se_87 : Cond.selects (ab_yn 87).cls (ab_yn 87) (ab_yn 87) ∈ lw_tbl := List.mem_append_right _ (List.mem_of_getElem? (i := 422) (by decide +kernel))
set_option maxRecDepth 100000 in
theorem kw_88 : ab_kw 88 ∈ lw_tbl := List.mem_append_right _ (List.mem_of_getElem? (i := 389) (by decide +kernel))
theorem im_88 : Cond.instanceMethod (ab_yn 88) ∈ lw_tbl := List.mem_append_right _ (List.mem_of_getElem? (i := 387) (by decide +kernel))
theorem se_88 : Cond.selects (ab_yn 88).cls (ab_yn 88) (ab_yn 88) ∈ lw_tbl := List.mem_append_right _ (List.mem_of_getElem? (i := 388) (by decide +kernel))
set_option maxRecDepth 100000 in
theorem kw_89 : ab_kw 89 ∈ lw_tbl := List.mem_append_right _ (List.mem_of_getElem? (i := 393) (by decide +kernel))
theorem im_89 : Cond.instanceMethod (ab_yn 89) ∈ lw_tbl := List.mem_append_right _ (List.mem_of_getElem? (i := 391) (by decide +kernel))
theorem se_89 : Cond.selects (ab_yn 89).cls (ab_yn 89) (ab_yn 89) ∈ lw_tbl := List.mem_append_right _ (List.mem_of_getElem? (i := 392) (by decide +kernel))
set_option maxRecDepth 100000 in
theorem kw_90 : ab_kw 90 ∈ lw_tbl := List.mem_append_right _ (List.mem_of_getElem? (i := 400) (by decide +kernel))
theorem im_90 : Cond.instanceMethod (ab_yn 90) ∈ lw_tbl := List.mem_append_right _ (List.mem_of_getElem? (i := 398) (by decide +kernel))
theorem se_90 : Cond.selects (ab_yn 90).cls (ab_yn 90) (ab_yn 90) ∈ lw_tbl := List.mem_append_right _ (List.mem_of_getElem? (i := 399) (by decide +kernel))
set_option maxRecDepth 100000 in
theorem kw_91 : ab_kw 91 ∈ lw_tbl := List.mem_append_right _ (List.mem_of_getElem? (i := 433) (by decide +kernel))
theorem im_91 : Cond.instanceMethod (ab_yn 91) ∈ lw_tbl := List.mem_append_right _ (List.mem_of_getElem? (i := 431) (by decide +kernel))
theorem se_91 : Cond.selects (ab_yn 91).cls (ab_yn 91) (ab_yn 91) ∈ lw_tbl := List.mem_append_right _ (List.mem_of_getElem? (i := 432) (by decide +kernel))
set_option maxRecDepth 100000 in
theorem kw_92 : ab_kw 92 ∈ lw_tbl := List.mem_append_right _ (List.mem_of_getElem? (i := 183) (by decide +kernel))
theorem im_92 : Cond.instanceMethod (ab_yn 92) ∈ lw_tbl := List.mem_append_right _ (List.mem_of_getElem? (i := 181) (by decide +kernel))
theorem se_92 : Cond.selects (ab_yn 92).cls (ab_yn 92) (ab_yn 92) ∈ lw_tbl := List.mem_append_right _ (List.mem_of_getElem? (i := 182) (by decide +kernel))
set_option maxRecDepth 100000 in
theorem kw_93 : ab_kw 93 ∈ lw_tbl := List.mem_append_right _ (List.mem_of_getElem? (i := 187) (by decide +kernel))
theorem im_93 : Cond.instanceMethod (ab_yn 93) ∈ lw_tbl := List.mem_append_right _ (List.mem_of_getElem? (i := 185) (by decide +kernel))
theorem se_93 : Cond.selects (ab_yn 93).cls (ab_yn 93) (ab_yn 93) ∈ lw_tbl := List.mem_append_right _ (List.mem_of_getElem? (i := 186) (by decide +kernel))
set_option maxRecDepth 100000 in
theorem kw_94 : ab_kw 94 ∈ lw_tbl := List.mem_append_right _ (List.mem_of_getElem? (i := 207) (by decide +kernel))
theorem im_94 : Cond.instanceMethod (ab_yn 94) ∈ lw_tbl := List.mem_append_right _ (List.mem_of_getElem? (i := 205) (by decide +kernel))
theorem se_94 : Cond.selects (ab_yn 94).cls (ab_yn 94) (ab_yn 94) ∈ lw_tbl := List.mem_append_right _ (List.mem_of_getElem? (i := 206) (by decide +kernel))
set_option maxRecDepth 100000 in
theorem kw_95 : ab_kw 95 ∈ lw_tbl := List.mem_append_right _ (List.mem_of_getElem? (i := 550) (by decide +kernel))
theorem im_95 : Cond.instanceMethod (ab_yn 95) ∈ lw_tbl := List.mem_append_right _ (List.mem_of_getElem? (i := 548) (by decide +kernel))
theorem se_95 : Cond.selects (ab_yn 95).cls (ab_yn 95) (ab_yn 95) ∈ lw_tbl := List.mem_append_right _ (List.mem_of_getElem? (i := 549) (by decide +kernel))
set_option maxRecDepth 100000 in
theorem kw_96 : ab_kw 96 ∈ lw_tbl := List.mem_append_right _ (List.mem_of_getElem? (i := 586) (by decide +kernel))
theorem im_96 : Cond.instanceMethod (ab_yn 96) ∈ lw_tbl := List.mem_append_right _ (List.mem_of_getElem? (i := 584) (by decide +kernel))
theorem se_96 : Cond.selects (ab_yn 96).cls (ab_yn 96) (ab_yn 96) ∈ lw_tbl := List.mem_append_right _ (List.mem_of_getElem? (i := 585) (by decide +kernel))
set_option maxRecDepth 100000 in
theorem kw_97 : ab_kw 97 ∈ lw_tbl := List.mem_append_right _ (List.mem_of_getElem? (i := 555) (by decide +kernel))
theorem im_97 : Cond.instanceMethod (ab_yn 97) ∈ lw_tbl := List.mem_append_right _ (List.mem_of_getElem? (i := 553) (by decide +kernel))
theorem se_97 : Cond.selects (ab_yn 97).cls (ab_yn 97) (ab_yn 97) ∈ lw_tbl := List.mem_append_right _ (List.mem_of_getElem? (i := 554) (by decide +kernel))
set_option maxRecDepth 100000 in
theorem kw_98 : ab_kw 98 ∈ lw_tbl := List.mem_append_right _ (List.mem_of_getElem? (i := 562) (by decide +kernel))
theorem im_98 : Cond.instanceMethod (ab_yn 98) ∈ lw_tbl := List.mem_append_right _ (List.mem_of_getElem? (i := 560) (by decide +kernel))
theorem se_98 : Cond.selects (ab_yn 98).cls (ab_yn 98) (ab_yn 98) ∈ lw_tbl := List.mem_append_right _ (List.mem_of_getElem? (i := 561) (by decide +kernel))
set_option maxRecDepth 100000 in
theorem kw_99 : ab_kw 99 ∈ lw_tbl := List.mem_append_right _ (List.mem_of_getElem? (i := 590) (by decide +kernel))
theorem im_99 : Cond.instanceMethod (ab_yn 99) ∈ lw_tbl := List.mem_append_right _ (List.mem_of_getElem? (i := 588) (by decide +kernel))
theorem se_99 : Cond.selects (ab_yn 99).cls (ab_yn 99) (ab_yn 99) ∈ lw_tbl := List.mem_append_right _ (List.mem_of_getElem? (i := 589) (by decide +kernel))
set_option maxRecDepth 100000 in
theorem kw_100 : ab_kw 100 ∈ lw_tbl := List.mem_append_right _ (List.mem_of_getElem? (i := 594) (by decide +kernel))
theorem im_100 : Cond.instanceMethod (ab_yn 100) ∈ lw_tbl := List.mem_append_right _ (List.mem_of_getElem? (i := 592) (by decide +kernel))
theorem se_100 : Cond.selects (ab_yn 100).cls (ab_yn 100) (ab_yn 100) ∈ lw_tbl := List.mem_append_right _ (List.mem_of_getElem? (i := 593) (by decide +kernel))
set_option maxRecDepth 100000 in
theorem kw_101 : ab_kw 101 ∈ lw_tbl := List.mem_append_right _ (List.mem_of_getElem? (i := 570) (by decide +kernel))
theorem im_101 : Cond.instanceMethod (ab_yn 101) ∈ lw_tbl := List.mem_append_right _ (List.mem_of_getElem? (i := 568) (by decide +kernel))
theorem se_101 : Cond.selects (ab_yn 101).cls (ab_yn 101) (ab_yn 101) ∈ lw_tbl := List.mem_append_right _ (List.mem_of_getElem? (i := 569) (by decide +kernel))
set_option maxRecDepth 100000 in
theorem kw_102 : ab_kw 102 ∈ lw_tbl := List.mem_append_right _ (List.mem_of_getElem? (i := 577) (by decide +kernel))
theorem im_102 : Cond.instanceMethod (ab_yn 102) ∈ lw_tbl := List.mem_append_right _ (List.mem_of_getElem? (i := 575) (by decide +kernel))
theorem se_102 : Cond.selects (ab_yn 102).cls (ab_yn 102) (ab_yn 102) ∈ lw_tbl := List.mem_append_right _ (List.mem_of_getElem? (i := 576) (by decide +kernel))
set_option maxRecDepth 100000 in
theorem kw_103 : ab_kw 103 ∈ lw_tbl := List.mem_append_right _ (List.mem_of_getElem? (i := 582) (by decide +kernel))
theorem im_103 : Cond.instanceMethod (ab_yn 103) ∈ lw_tbl := List.mem_append_right _ (List.mem_of_getElem? (i := 580) (by decide +kernel))
theorem se_103 : Cond.selects (ab_yn 103).cls (ab_yn 103) (ab_yn 103) ∈ lw_tbl := List.mem_append_right _ (List.mem_of_getElem? (i := 581) (by decide +kernel))
set_option maxRecDepth 100000 in
theorem kw_104 : ab_kw 104 ∈ lw_tbl := List.mem_append_right _ (List.mem_of_getElem? (i := 245) (by decide +kernel))
theorem sx_104 : Cond.static (ab_yn 104) ∈ lw_tbl := List.mem_append_right _ (List.mem_of_getElem? (i := 244) (by decide +kernel))
set_option maxRecDepth 100000 in
theorem kw_105 : ab_kw 105 ∈ lw_tbl := List.mem_append_right _ (List.mem_of_getElem? (i := 248) (by decide +kernel))
theorem sx_105 : Cond.static (ab_yn 105) ∈ lw_tbl := List.mem_append_right _ (List.mem_of_getElem? (i := 247) (by decide +kernel))
set_option maxRecDepth 100000 in
theorem kw_106 : ab_kw 106 ∈ lw_tbl := List.mem_append_right _ (List.mem_of_getElem? (i := 242) (by decide +kernel))
theorem sx_106 : Cond.static (ab_yn 106) ∈ lw_tbl := List.mem_append_right _ (List.mem_of_getElem? (i := 241) (by decide +kernel))
set_option maxRecDepth 100000 in
theorem kw_107 : ab_kw 107 ∈ lw_tbl := List.mem_append_right _ (List.mem_of_getElem? (i := 337) (by decide +kernel))
theorem im_107 : Cond.instanceMethod (ab_yn 107) ∈ lw_tbl := List.mem_append_right _ (List.mem_of_getElem? (i := 335) (by decide +kernel))
theorem se_107 : Cond.selects (ab_yn 107).cls (ab_yn 107) (ab_yn 107) ∈ lw_tbl := List.mem_append_right _ (List.mem_of_getElem? (i := 336) (by decide +kernel))
set_option maxRecDepth 100000 in
theorem kw_108 : ab_kw 108 ∈ lw_tbl := List.mem_append_right _ (List.mem_of_getElem? (i := 195) (by decide +kernel))
theorem im_108 : Cond.instanceMethod (ab_yn 108) ∈ lw_tbl := List.mem_append_right _ (List.mem_of_getElem? (i := 193) (by decide +kernel))
theorem se_108 : Cond.selects (ab_yn 108).cls (ab_yn 108) (ab_yn 108) ∈ lw_tbl := List.mem_append_right _ (List.mem_of_getElem? (i := 194) (by decide +kernel))
set_option maxRecDepth 100000 in
theorem kw_109 : ab_kw 109 ∈ lw_tbl := List.mem_append_right _ (List.mem_of_getElem? (i := 381) (by decide +kernel))
theorem im_109 : Cond.instanceMethod (ab_yn 109) ∈ lw_tbl := List.mem_append_right _ (List.mem_of_getElem? (i := 379) (by decide +kernel))
theorem se_109 : Cond.selects (ab_yn 109).cls (ab_yn 109) (ab_yn 109) ∈ lw_tbl := List.mem_append_right _ (List.mem_of_getElem? (i := 380) (by decide +kernel))
set_option maxRecDepth 100000 in
theorem kw_110 : ab_kw 110 ∈ lw_tbl := List.mem_append_right _ (List.mem_of_getElem? (i := 341) (by decide +kernel))
theorem im_110 : Cond.instanceMethod (ab_yn 110) ∈ lw_tbl := List.mem_append_right _ (List.mem_of_getElem? (i := 339) (by decide +kernel))
theorem se_110 : Cond.selects (ab_yn 110).cls (ab_yn 110) (ab_yn 110) ∈ lw_tbl := List.mem_append_right _ (List.mem_of_getElem? (i := 340) (by decide +kernel))
set_option maxRecDepth 100000 in
theorem kw_111 : ab_kw 111 ∈ lw_tbl := List.mem_append_right _ (List.mem_of_getElem? (i := 366) (by decide +kernel))
theorem im_111 : Cond.instanceMethod (ab_yn 111) ∈ lw_tbl := List.mem_append_right _ (List.mem_of_getElem? (i := 364) (by decide +kernel))
theorem se_111 : Cond.selects (ab_yn 111).cls (ab_yn 111) (ab_yn 111) ∈ lw_tbl := List.mem_append_right _ (List.mem_of_getElem? (i := 365) (by decide +kernel))
set_option maxRecDepth 100000 in
theorem kw_112 : ab_kw 112 ∈ lw_tbl := List.mem_append_right _ (List.mem_of_getElem? (i := 362) (by decide +kernel))
theorem im_112 : Cond.instanceMethod (ab_yn 112) ∈ lw_tbl := List.mem_append_right _ (List.mem_of_getElem? (i := 360) (by decide +kernel))
theorem se_112 : Cond.selects (ab_yn 112).cls (ab_yn 112) (ab_yn 112) ∈ lw_tbl := List.mem_append_right _ (List.mem_of_getElem? (i := 361) (by decide +kernel))
set_option maxRecDepth 100000 in
theorem kw_113 : ab_kw 113 ∈ lw_tbl := List.mem_append_right _ (List.mem_of_getElem? (i := 373) (by decide +kernel))
theorem im_113 : Cond.instanceMethod (ab_yn 113) ∈ lw_tbl := List.mem_append_right _ (List.mem_of_getElem? (i := 371) (by decide +kernel))
theorem se_113 : Cond.selects (ab_yn 113).cls (ab_yn 113) (ab_yn 113) ∈ lw_tbl := List.mem_append_right _ (List.mem_of_getElem? (i := 372) (by decide +kernel))
set_option maxRecDepth 100000 in
theorem kw_114 : ab_kw 114 ∈ lw_tbl := List.mem_append_right _ (List.mem_of_getElem? (i := 358) (by decide +kernel))
theorem im_114 : Cond.instanceMethod (ab_yn 114) ∈ lw_tbl := List.mem_append_right _ (List.mem_of_getElem? (i := 356) (by decide +kernel))
theorem se_114 : Cond.selects (ab_yn 114).cls (ab_yn 114) (ab_yn 114) ∈ lw_tbl := List.mem_append_right _ (List.mem_of_getElem? (i := 357) (by decide +kernel))
set_option maxRecDepth 100000 in
theorem kw_115 : ab_kw 115 ∈ lw_tbl := List.mem_append_right _ (List.mem_of_getElem? (i := 218) (by decide +kernel))
theorem im_115 : Cond.instanceMethod (ab_yn 115) ∈ lw_tbl := List.mem_append_right _ (List.mem_of_getElem? (i := 216) (by decide +kernel))
theorem se_115 : Cond.selects (ab_yn 115).cls (ab_yn 115) (ab_yn 115) ∈ lw_tbl := List.mem_append_right _ (List.mem_of_getElem? (i := 217) (by decide +kernel))
set_option maxRecDepth 100000 in
theorem kw_116 : ab_kw 116 ∈ lw_tbl := List.mem_append_right _ (List.mem_of_getElem? (i := 191) (by decide +kernel))
theorem im_116 : Cond.instanceMethod (ab_yn 116) ∈ lw_tbl := List.mem_append_right _ (List.mem_of_getElem? (i := 189) (by decide +kernel))
theorem se_116 : Cond.selects (ab_yn 116).cls (ab_yn 116) (ab_yn 116) ∈ lw_tbl := List.mem_append_right _ (List.mem_of_getElem? (i := 190) (by decide +kernel))
set_option maxRecDepth 100000 in
theorem kw_117 : ab_kw 117 ∈ lw_tbl := List.mem_append_right _ (List.mem_of_getElem? (i := 632) (by decide +kernel))
theorem im_117 : Cond.instanceMethod (ab_yn 117) ∈ lw_tbl := List.mem_append_right _ (List.mem_of_getElem? (i := 630) (by decide +kernel))
theorem se_117 : Cond.selects (ab_yn 117).cls (ab_yn 117) (ab_yn 117) ∈ lw_tbl := List.mem_append_right _ (List.mem_of_getElem? (i := 631) (by decide +kernel))
set_option maxRecDepth 100000 in
theorem kw_118 : ab_kw 118 ∈ lw_tbl := List.mem_append_right _ (List.mem_of_getElem? (i := 606) (by decide +kernel))
theorem im_118 : Cond.instanceMethod (ab_yn 118) ∈ lw_tbl := List.mem_append_right _ (List.mem_of_getElem? (i := 604) (by decide +kernel))
theorem se_118 : Cond.selects (ab_yn 118).cls (ab_yn 118) (ab_yn 118) ∈ lw_tbl := List.mem_append_right _ (List.mem_of_getElem? (i := 605) (by decide +kernel))
set_option maxRecDepth 100000 in
theorem kw_119 : ab_kw 119 ∈ lw_tbl := List.mem_append_right _ (List.mem_of_getElem? (i := 610) (by decide +kernel))
theorem im_119 : Cond.instanceMethod (ab_yn 119) ∈ lw_tbl := List.mem_append_right _ (List.mem_of_getElem? (i := 608) (by decide +kernel))
theorem se_119 : Cond.selects (ab_yn 119).cls (ab_yn 119) (ab_yn 119) ∈ lw_tbl := List.mem_append_right _ (List.mem_of_getElem? (i := 609) (by decide +kernel))
set_option maxRecDepth 100000 in
theorem kw_120 : ab_kw 120 ∈ lw_tbl := List.mem_append_right _ (List.mem_of_getElem? (i := 616) (by decide +kernel))
theorem im_120 : Cond.instanceMethod (ab_yn 120) ∈ lw_tbl := List.mem_append_right _ (List.mem_of_getElem? (i := 614) (by decide +kernel))
theorem se_120 : Cond.selects (ab_yn 120).cls (ab_yn 120) (ab_yn 120) ∈ lw_tbl := List.mem_append_right _ (List.mem_of_getElem? (i := 615) (by decide +kernel))
set_option maxRecDepth 100000 in
theorem kw_121 : ab_kw 121 ∈ lw_tbl := List.mem_append_right _ (List.mem_of_getElem? (i := 637) (by decide +kernel))
theorem im_121 : Cond.instanceMethod (ab_yn 121) ∈ lw_tbl := List.mem_append_right _ (List.mem_of_getElem? (i := 635) (by decide +kernel))
theorem se_121 : Cond.selects (ab_yn 121).cls (ab_yn 121) (ab_yn 121) ∈ lw_tbl := List.mem_append_right _ (List.mem_of_getElem? (i := 636) (by decide +kernel))
set_option maxRecDepth 100000 in
theorem kw_122 : ab_kw 122 ∈ lw_tbl := List.mem_append_right _ (List.mem_of_getElem? (i := 642) (by decide +kernel))
theorem im_122 : Cond.instanceMethod (ab_yn 122) ∈ lw_tbl := List.mem_append_right _ (List.mem_of_getElem? (i := 640) (by decide +kernel))
theorem se_122 : Cond.selects (ab_yn 122).cls (ab_yn 122) (ab_yn 122) ∈ lw_tbl := List.mem_append_right _ (List.mem_of_getElem? (i := 641) (by decide +kernel))
set_option maxRecDepth 100000 in
theorem kw_123 : ab_kw 123 ∈ lw_tbl := List.mem_append_right _ (List.mem_of_getElem? (i := 647) (by decide +kernel))
theorem im_123 : Cond.instanceMethod (ab_yn 123) ∈ lw_tbl := List.mem_append_right _ (List.mem_of_getElem? (i := 645) (by decide +kernel))
theorem se_123 : Cond.selects (ab_yn 123).cls (ab_yn 123) (ab_yn 123) ∈ lw_tbl := List.mem_append_right _ (List.mem_of_getElem? (i := 646) (by decide +kernel))
set_option maxRecDepth 100000 in
theorem kw_124 : ab_kw 124 ∈ lw_tbl := List.mem_append_right _ (List.mem_of_getElem? (i := 620) (by decide +kernel))
theorem im_124 : Cond.instanceMethod (ab_yn 124) ∈ lw_tbl := List.mem_append_right _ (List.mem_of_getElem? (i := 618) (by decide +kernel))
theorem se_124 : Cond.selects (ab_yn 124).cls (ab_yn 124) (ab_yn 124) ∈ lw_tbl := List.mem_append_right _ (List.mem_of_getElem? (i := 619) (by decide +kernel))
set_option maxRecDepth 100000 in
theorem kw_125 : ab_kw 125 ∈ lw_tbl := List.mem_append_right _ (List.mem_of_getElem? (i := 624) (by decide +kernel))
theorem im_125 : Cond.instanceMethod (ab_yn 125) ∈ lw_tbl := List.mem_append_right _ (List.mem_of_getElem? (i := 622) (by decide +kernel))
theorem se_125 : Cond.selects (ab_yn 125).cls (ab_yn 125) (ab_yn 125) ∈ lw_tbl := List.mem_append_right _ (List.mem_of_getElem? (i := 623) (by decide +kernel))
set_option maxRecDepth 100000 in
theorem kw_126 : ab_kw 126 ∈ lw_tbl := List.mem_append_right _ (List.mem_of_getElem? (i := 628) (by decide +kernel))
theorem im_126 : Cond.instanceMethod (ab_yn 126) ∈ lw_tbl := List.mem_append_right _ (List.mem_of_getElem? (i := 626) (by decide +kernel))
theorem se_126 : Cond.selects (ab_yn 126).cls (ab_yn 126) (ab_yn 126) ∈ lw_tbl := List.mem_append_right _ (List.mem_of_getElem? (i := 627) (by decide +kernel))
set_option maxRecDepth 100000 in
theorem kw_127 : ab_kw 127 ∈ lw_tbl := List.mem_append_right _ (List.mem_of_getElem? (i := 233) (by decide +kernel))
theorem sx_127 : Cond.static (ab_yn 127) ∈ lw_tbl := List.mem_append_right _ (List.mem_of_getElem? (i := 232) (by decide +kernel))
set_option maxRecDepth 100000 in
theorem kw_128 : ab_kw 128 ∈ lw_tbl := List.mem_append_right _ (List.mem_of_getElem? (i := 344) (by decide +kernel))
theorem sx_128 : Cond.static (ab_yn 128) ∈ lw_tbl := List.mem_append_right _ (List.mem_of_getElem? (i := 343) (by decide +kernel))
set_option maxRecDepth 100000 in
theorem kw_129 : ab_kw 129 ∈ lw_tbl := List.mem_append_right _ (List.mem_of_getElem? (i := 456) (by decide +kernel))
theorem sx_129 : Cond.static (ab_yn 129) ∈ lw_tbl := List.mem_append_right _ (List.mem_of_getElem? (i := 455) (by decide +kernel))
set_option maxRecDepth 100000 in
theorem kw_130 : ab_kw 130 ∈ lw_tbl := List.mem_append_right _ (List.mem_of_getElem? (i := 490) (by decide +kernel))
theorem sx_130 : Cond.static (ab_yn 130) ∈ lw_tbl := List.mem_append_right _ (List.mem_of_getElem? (i := 489) (by decide +kernel))
set_option maxRecDepth 100000 in
theorem kw_131 : ab_kw 131 ∈ lw_tbl := List.mem_append_right _ (List.mem_of_getElem? (i := 504) (by decide +kernel))
theorem sx_131 : Cond.static (ab_yn 131) ∈ lw_tbl := List.mem_append_right _ (List.mem_of_getElem? (i := 503) (by decide +kernel))
set_option maxRecDepth 100000 in
theorem kw_132 : ab_kw 132 ∈ lw_tbl := List.mem_append_right _ (List.mem_of_getElem? (i := 526) (by decide +kernel))
theorem sx_132 : Cond.static (ab_yn 132) ∈ lw_tbl := List.mem_append_right _ (List.mem_of_getElem? (i := 525) (by decide +kernel))
set_option maxRecDepth 100000 in
theorem kw_133 : ab_kw 133 ∈ lw_tbl := List.mem_append_right _ (List.mem_of_getElem? (i := 537) (by decide +kernel))
theorem sx_133 : Cond.static (ab_yn 133) ∈ lw_tbl := List.mem_append_right _ (List.mem_of_getElem? (i := 536) (by decide +kernel))
set_option maxRecDepth 100000 in
theorem kw_134 : ab_kw 134 ∈ lw_tbl := List.mem_append_right _ (List.mem_of_getElem? (i := 597) (by decide +kernel))
theorem sx_134 : Cond.static (ab_yn 134) ∈ lw_tbl := List.mem_append_right _ (List.mem_of_getElem? (i := 596) (by decide +kernel))
set_option maxRecDepth 100000 in
theorem kw_135 : ab_kw 135 ∈ lw_tbl := List.mem_append_right _ (List.mem_of_getElem? (i := 650) (by decide +kernel))
theorem sx_135 : Cond.static (ab_yn 135) ∈ lw_tbl := List.mem_append_right _ (List.mem_of_getElem? (i := 649) (by decide +kernel))
set_option maxRecDepth 100000 in
theorem kw_137 : ab_kw 137 ∈ lw_tbl := List.mem_append_right _ (List.mem_of_getElem? (i := 105) (by decide +kernel))
theorem sx_137 : Cond.static (ab_yn 137) ∈ lw_tbl := List.mem_append_right _ (List.mem_of_getElem? (i := 104) (by decide +kernel))
end
section
/-! The words that calls ask, put together. By program. -/
theorem ab_kwok : ∀ i, i < 138 → i ≠ 136 → ab_kw i ∈ lw_tbl
  | 0, _, _ => kw_0
  | 1, _, _ => kw_1
  | 2, _, _ => kw_2
  | 3, _, _ => kw_3
  | 4, _, _ => kw_4
  | 5, _, _ => kw_5
  | 6, _, _ => kw_6
  | 7, _, _ => kw_7
  | 8, _, _ => kw_8
  | 9, _, _ => kw_9
  | 10, _, _ => kw_10
  | 11, _, _ => kw_11
  | 12, _, _ => kw_12
  | 13, _, _ => kw_13
  | 14, _, _ => kw_14
  | 15, _, _ => kw_15
  | 16, _, _ => kw_16
  | 17, _, _ => kw_17
  | 18, _, _ => kw_18
  | 19, _, _ => kw_19
  | 20, _, _ => kw_20
  | 21, _, _ => kw_21
  | 22, _, _ => kw_22
  | 23, _, _ => kw_23
  | 24, _, _ => kw_24
  | 25, _, _ => kw_25
  | 26, _, _ => kw_26
  | 27, _, _ => kw_27
  | 28, _, _ => kw_28
  | 29, _, _ => kw_29
  | 30, _, _ => kw_30
  | 31, _, _ => kw_31
  | 32, _, _ => kw_32
  | 33, _, _ => kw_33
  | 34, _, _ => kw_34
  | 35, _, _ => kw_35
  | 36, _, _ => kw_36
  | 37, _, _ => kw_37
  | 38, _, _ => kw_38
  | 39, _, _ => kw_39
  | 40, _, _ => kw_40
  | 41, _, _ => kw_41
  | 42, _, _ => kw_42
  | 43, _, _ => kw_43
  | 44, _, _ => kw_44
  | 45, _, _ => kw_45
  | 46, _, _ => kw_46
  | 47, _, _ => kw_47
  | 48, _, _ => kw_48
  | 49, _, _ => kw_49
  | 50, _, _ => kw_50
  | 51, _, _ => kw_51
  | 52, _, _ => kw_52
  | 53, _, _ => kw_53
  | 54, _, _ => kw_54
  | 55, _, _ => kw_55
  | 56, _, _ => kw_56
  | 57, _, _ => kw_57
  | 58, _, _ => kw_58
  | 59, _, _ => kw_59
  | 60, _, _ => kw_60
  | 61, _, _ => kw_61
  | 62, _, _ => kw_62
  | 63, _, _ => kw_63
  | 64, _, _ => kw_64
  | 65, _, _ => kw_65
  | 66, _, _ => kw_66
  | 67, _, _ => kw_67
  | 68, _, _ => kw_68
  | 69, _, _ => kw_69
  | 70, _, _ => kw_70
  | 71, _, _ => kw_71
  | 72, _, _ => kw_72
  | 73, _, _ => kw_73
  | 74, _, _ => kw_74
  | 75, _, _ => kw_75
  | 76, _, _ => kw_76
  | 77, _, _ => kw_77
  | 78, _, _ => kw_78
  | 79, _, _ => kw_79
  | 80, _, _ => kw_80
  | 81, _, _ => kw_81
  | 82, _, _ => kw_82
  | 83, _, _ => kw_83
  | 84, _, _ => kw_84
  | 85, _, _ => kw_85
  | 86, _, _ => kw_86
  | 87, _, _ => kw_87
  | 88, _, _ => kw_88
  | 89, _, _ => kw_89
  | 90, _, _ => kw_90
  | 91, _, _ => kw_91
  | 92, _, _ => kw_92
  | 93, _, _ => kw_93
  | 94, _, _ => kw_94
  | 95, _, _ => kw_95
  | 96, _, _ => kw_96
  | 97, _, _ => kw_97
  | 98, _, _ => kw_98
  | 99, _, _ => kw_99
  | 100, _, _ => kw_100
  | 101, _, _ => kw_101
  | 102, _, _ => kw_102
  | 103, _, _ => kw_103
  | 104, _, _ => kw_104
  | 105, _, _ => kw_105
  | 106, _, _ => kw_106
  | 107, _, _ => kw_107
  | 108, _, _ => kw_108
  | 109, _, _ => kw_109
  | 110, _, _ => kw_110
  | 111, _, _ => kw_111
  | 112, _, _ => kw_112
  | 113, _, _ => kw_113
  | 114, _, _ => kw_114
  | 115, _, _ => kw_115
  | 116, _, _ => kw_116
  | 117, _, _ => kw_117
  | 118, _, _ => kw_118
  | 119, _, _ => kw_119
  | 120, _, _ => kw_120
  | 121, _, _ => kw_121
  | 122, _, _ => kw_122
  | 123, _, _ => kw_123
  | 124, _, _ => kw_124
  | 125, _, _ => kw_125
  | 126, _, _ => kw_126
  | 127, _, _ => kw_127
  | 128, _, _ => kw_128
  | 129, _, _ => kw_129
  | 130, _, _ => kw_130
  | 131, _, _ => kw_131
  | 132, _, _ => kw_132
  | 133, _, _ => kw_133
  | 134, _, _ => kw_134
  | 135, _, _ => kw_135
  | 136, _, h => absurd rfl h
  | 137, _, _ => kw_137
  | n + 138, h, _ => absurd h (by omega)
set_option maxRecDepth 100000 in
theorem ab_ynok : ∀ m ∈ ab_Ms, plainName m.2.1.cls = true ∧ m.2.1.cls ≠ "java/lang/invoke/MethodHandle" ∧ m.2.1.cls ≠ "java/lang/invoke/VarHandle" ∧ m.2.1.cls = ab_cs m.1 ∧ m.1 < 9 := by decide +kernel
set_option maxRecDepth 100000 in
theorem ab_pnok : ∀ i ∈ List.range 138, (parseMethodDescriptor (ab_yn i).desc).map (fun d => d.parameters.length) = some (ab_pn i) := by decide +kernel
theorem ab_iniok : ∀ c ∈ List.range 9, Cond.initialized (ab_cs c) ∈ lw_tbl := by decide +kernel
/-- the words of a call: kind 0 virtual, 1 static, 2 static of a nest mate -/
def ab_cw (q : Nat × Nat × Nat × Nat) : List Cond := match q.2.1 with
  | 0 => [.methodLink (ab_cs q.1) q.2.2.1 (ab_yn q.2.2.2), .instanceMethod (ab_yn q.2.2.2), .selects (ab_yn q.2.2.2).cls (ab_yn q.2.2.2) (ab_yn q.2.2.2)]
  | 1 => [.methodLink (ab_cs q.1) q.2.2.1 (ab_yn q.2.2.2), .static (ab_yn q.2.2.2)]
  | _ => [.methodLinkNest (ab_cs q.1) q.2.2.1 (ab_yn q.2.2.2) "ParserProof", .static (ab_yn q.2.2.2)]
def ab_cok (q : Nat × Nat × Nat × Nat) : Prop := (∀ w ∈ ab_cw q, w ∈ lw_tbl) ∧ q.2.2.2 < 138 ∧ q.2.2.2 ≠ 136 ∧ q.2.1 < 3
theorem ct_0 : ab_cok (5, 1, 46, 106) := ⟨List.forall_mem_cons.mpr ⟨List.mem_append_right _ (List.mem_of_getElem? (i := 240) (by decide +kernel)), List.forall_mem_cons.mpr ⟨sx_106, fun _ h => absurd h List.not_mem_nil⟩⟩, by decide, by decide, by decide⟩
theorem ct_1 : ab_cok (5, 0, 66, 16) := ⟨List.forall_mem_cons.mpr ⟨List.mem_append_right _ (List.mem_of_getElem? (i := 176) (by decide +kernel)), List.forall_mem_cons.mpr ⟨im_16, List.forall_mem_cons.mpr ⟨se_16, fun _ h => absurd h List.not_mem_nil⟩⟩⟩, by decide, by decide, by decide⟩
theorem ct_2 : ab_cok (5, 0, 69, 107) := ⟨List.forall_mem_cons.mpr ⟨List.mem_append_right _ (List.mem_of_getElem? (i := 334) (by decide +kernel)), List.forall_mem_cons.mpr ⟨im_107, List.forall_mem_cons.mpr ⟨se_107, fun _ h => absurd h List.not_mem_nil⟩⟩⟩, by decide, by decide, by decide⟩
theorem ct_3 : ab_cok (5, 0, 73, 108) := ⟨List.forall_mem_cons.mpr ⟨List.mem_append_right _ (List.mem_of_getElem? (i := 192) (by decide +kernel)), List.forall_mem_cons.mpr ⟨im_108, List.forall_mem_cons.mpr ⟨se_108, fun _ h => absurd h List.not_mem_nil⟩⟩⟩, by decide, by decide, by decide⟩
theorem ct_4 : ab_cok (5, 0, 78, 85) := ⟨List.forall_mem_cons.mpr ⟨List.mem_append_right _ (List.mem_of_getElem? (i := 351) (by decide +kernel)), List.forall_mem_cons.mpr ⟨im_85, List.forall_mem_cons.mpr ⟨se_85, fun _ h => absurd h List.not_mem_nil⟩⟩⟩, by decide, by decide, by decide⟩
theorem ct_5 : ab_cok (5, 0, 88, 19) := ⟨List.forall_mem_cons.mpr ⟨List.mem_append_right _ (List.mem_of_getElem? (i := 462) (by decide +kernel)), List.forall_mem_cons.mpr ⟨im_19, List.forall_mem_cons.mpr ⟨se_19, fun _ h => absurd h List.not_mem_nil⟩⟩⟩, by decide, by decide, by decide⟩
theorem ct_6 : ab_cok (5, 0, 92, 78) := ⟨List.forall_mem_cons.mpr ⟨List.mem_append_right _ (List.mem_of_getElem? (i := 487) (by decide +kernel)), List.forall_mem_cons.mpr ⟨im_78, List.forall_mem_cons.mpr ⟨se_78, fun _ h => absurd h List.not_mem_nil⟩⟩⟩, by decide, by decide, by decide⟩
theorem ct_7 : ab_cok (5, 0, 96, 22) := ⟨List.forall_mem_cons.mpr ⟨List.mem_append_right _ (List.mem_of_getElem? (i := 495) (by decide +kernel)), List.forall_mem_cons.mpr ⟨im_22, List.forall_mem_cons.mpr ⟨se_22, fun _ h => absurd h List.not_mem_nil⟩⟩⟩, by decide, by decide, by decide⟩
theorem ct_8 : ab_cok (5, 0, 101, 79) := ⟨List.forall_mem_cons.mpr ⟨List.mem_append_right _ (List.mem_of_getElem? (i := 501) (by decide +kernel)), List.forall_mem_cons.mpr ⟨im_79, List.forall_mem_cons.mpr ⟨se_79, fun _ h => absurd h List.not_mem_nil⟩⟩⟩, by decide, by decide, by decide⟩
theorem ct_9 : ab_cok (5, 0, 105, 116) := ⟨List.forall_mem_cons.mpr ⟨List.mem_append_right _ (List.mem_of_getElem? (i := 188) (by decide +kernel)), List.forall_mem_cons.mpr ⟨im_116, List.forall_mem_cons.mpr ⟨se_116, fun _ h => absurd h List.not_mem_nil⟩⟩⟩, by decide, by decide, by decide⟩
theorem ct_10 : ab_cok (5, 0, 108, 20) := ⟨List.forall_mem_cons.mpr ⟨List.mem_append_right _ (List.mem_of_getElem? (i := 509) (by decide +kernel)), List.forall_mem_cons.mpr ⟨im_20, List.forall_mem_cons.mpr ⟨se_20, fun _ h => absurd h List.not_mem_nil⟩⟩⟩, by decide, by decide, by decide⟩
theorem ct_11 : ab_cok (5, 0, 112, 81) := ⟨List.forall_mem_cons.mpr ⟨List.mem_append_right _ (List.mem_of_getElem? (i := 518) (by decide +kernel)), List.forall_mem_cons.mpr ⟨im_81, List.forall_mem_cons.mpr ⟨se_81, fun _ h => absurd h List.not_mem_nil⟩⟩⟩, by decide, by decide, by decide⟩
theorem ct_12 : ab_cok (5, 0, 116, 82) := ⟨List.forall_mem_cons.mpr ⟨List.mem_append_right _ (List.mem_of_getElem? (i := 531) (by decide +kernel)), List.forall_mem_cons.mpr ⟨im_82, List.forall_mem_cons.mpr ⟨se_82, fun _ h => absurd h List.not_mem_nil⟩⟩⟩, by decide, by decide, by decide⟩
theorem ct_13 : ab_cok (5, 0, 119, 17) := ⟨List.forall_mem_cons.mpr ⟨List.mem_append_right _ (List.mem_of_getElem? (i := 542) (by decide +kernel)), List.forall_mem_cons.mpr ⟨im_17, List.forall_mem_cons.mpr ⟨se_17, fun _ h => absurd h List.not_mem_nil⟩⟩⟩, by decide, by decide, by decide⟩
theorem ct_14 : ab_cok (5, 0, 122, 95) := ⟨List.forall_mem_cons.mpr ⟨List.mem_append_right _ (List.mem_of_getElem? (i := 547) (by decide +kernel)), List.forall_mem_cons.mpr ⟨im_95, List.forall_mem_cons.mpr ⟨se_95, fun _ h => absurd h List.not_mem_nil⟩⟩⟩, by decide, by decide, by decide⟩
theorem ct_15 : ab_cok (5, 0, 126, 94) := ⟨List.forall_mem_cons.mpr ⟨List.mem_append_right _ (List.mem_of_getElem? (i := 204) (by decide +kernel)), List.forall_mem_cons.mpr ⟨im_94, List.forall_mem_cons.mpr ⟨se_94, fun _ h => absurd h List.not_mem_nil⟩⟩⟩, by decide, by decide, by decide⟩
theorem ct_16 : ab_cok (5, 1, 129, 24) := ⟨List.forall_mem_cons.mpr ⟨List.mem_append_right _ (List.mem_of_getElem? (i := 212) (by decide +kernel)), List.forall_mem_cons.mpr ⟨sx_24, fun _ h => absurd h List.not_mem_nil⟩⟩, by decide, by decide, by decide⟩
theorem ct_17 : ab_cok (5, 0, 135, 115) := ⟨List.forall_mem_cons.mpr ⟨List.mem_append_right _ (List.mem_of_getElem? (i := 215) (by decide +kernel)), List.forall_mem_cons.mpr ⟨im_115, List.forall_mem_cons.mpr ⟨se_115, fun _ h => absurd h List.not_mem_nil⟩⟩⟩, by decide, by decide, by decide⟩
theorem ct_18 : ab_cok (5, 0, 140, 118) := ⟨List.forall_mem_cons.mpr ⟨List.mem_append_right _ (List.mem_of_getElem? (i := 603) (by decide +kernel)), List.forall_mem_cons.mpr ⟨im_118, List.forall_mem_cons.mpr ⟨se_118, fun _ h => absurd h List.not_mem_nil⟩⟩⟩, by decide, by decide, by decide⟩
theorem ct_19 : ab_cok (5, 0, 153, 117) := ⟨List.forall_mem_cons.mpr ⟨List.mem_append_right _ (List.mem_of_getElem? (i := 657) (by decide +kernel)), List.forall_mem_cons.mpr ⟨im_117, List.forall_mem_cons.mpr ⟨se_117, fun _ h => absurd h List.not_mem_nil⟩⟩⟩, by decide, by decide, by decide⟩
theorem ct_20 : ab_cok (5, 0, 159, 92) := ⟨List.forall_mem_cons.mpr ⟨List.mem_append_right _ (List.mem_of_getElem? (i := 180) (by decide +kernel)), List.forall_mem_cons.mpr ⟨im_92, List.forall_mem_cons.mpr ⟨se_92, fun _ h => absurd h List.not_mem_nil⟩⟩⟩, by decide, by decide, by decide⟩
theorem ct_21 : ab_cok (5, 0, 164, 18) := ⟨List.forall_mem_cons.mpr ⟨List.mem_append_right _ (List.mem_of_getElem? (i := 466) (by decide +kernel)), List.forall_mem_cons.mpr ⟨im_18, List.forall_mem_cons.mpr ⟨se_18, fun _ h => absurd h List.not_mem_nil⟩⟩⟩, by decide, by decide, by decide⟩
theorem ct_22 : ab_cok (5, 0, 170, 21) := ⟨List.forall_mem_cons.mpr ⟨List.mem_append_right _ (List.mem_of_getElem? (i := 513) (by decide +kernel)), List.forall_mem_cons.mpr ⟨im_21, List.forall_mem_cons.mpr ⟨se_21, fun _ h => absurd h List.not_mem_nil⟩⟩⟩, by decide, by decide, by decide⟩
theorem ct_23 : ab_cok (5, 0, 176, 109) := ⟨List.forall_mem_cons.mpr ⟨List.mem_append_right _ (List.mem_of_getElem? (i := 499) (by decide +kernel)), List.forall_mem_cons.mpr ⟨im_109, List.forall_mem_cons.mpr ⟨se_109, fun _ h => absurd h List.not_mem_nil⟩⟩⟩, by decide, by decide, by decide⟩
theorem ct_24 : ab_cok (6, 0, 85, 29) := ⟨List.forall_mem_cons.mpr ⟨List.mem_append_right _ (List.mem_of_getElem? (i := 763) (by decide +kernel)), List.forall_mem_cons.mpr ⟨im_29, List.forall_mem_cons.mpr ⟨se_29, fun _ h => absurd h List.not_mem_nil⟩⟩⟩, by decide, by decide, by decide⟩
theorem ct_25 : ab_cok (6, 0, 92, 33) := ⟨List.forall_mem_cons.mpr ⟨List.mem_append_right _ (List.mem_of_getElem? (i := 767) (by decide +kernel)), List.forall_mem_cons.mpr ⟨im_33, List.forall_mem_cons.mpr ⟨se_33, fun _ h => absurd h List.not_mem_nil⟩⟩⟩, by decide, by decide, by decide⟩
theorem ct_26 : ab_cok (6, 0, 98, 30) := ⟨List.forall_mem_cons.mpr ⟨List.mem_append_right _ (List.mem_of_getElem? (i := 771) (by decide +kernel)), List.forall_mem_cons.mpr ⟨im_30, List.forall_mem_cons.mpr ⟨se_30, fun _ h => absurd h List.not_mem_nil⟩⟩⟩, by decide, by decide, by decide⟩
theorem ct_27 : ab_cok (6, 0, 101, 31) := ⟨List.forall_mem_cons.mpr ⟨List.mem_append_right _ (List.mem_of_getElem? (i := 775) (by decide +kernel)), List.forall_mem_cons.mpr ⟨im_31, List.forall_mem_cons.mpr ⟨se_31, fun _ h => absurd h List.not_mem_nil⟩⟩⟩, by decide, by decide, by decide⟩
theorem ct_28 : ab_cok (6, 0, 105, 35) := ⟨List.forall_mem_cons.mpr ⟨List.mem_append_right _ (List.mem_of_getElem? (i := 799) (by decide +kernel)), List.forall_mem_cons.mpr ⟨im_35, List.forall_mem_cons.mpr ⟨se_35, fun _ h => absurd h List.not_mem_nil⟩⟩⟩, by decide, by decide, by decide⟩
theorem ct_29 : ab_cok (6, 0, 108, 36) := ⟨List.forall_mem_cons.mpr ⟨List.mem_append_right _ (List.mem_of_getElem? (i := 795) (by decide +kernel)), List.forall_mem_cons.mpr ⟨im_36, List.forall_mem_cons.mpr ⟨se_36, fun _ h => absurd h List.not_mem_nil⟩⟩⟩, by decide, by decide, by decide⟩
theorem ct_30 : ab_cok (6, 0, 112, 37) := ⟨List.forall_mem_cons.mpr ⟨List.mem_append_right _ (List.mem_of_getElem? (i := 803) (by decide +kernel)), List.forall_mem_cons.mpr ⟨im_37, List.forall_mem_cons.mpr ⟨se_37, fun _ h => absurd h List.not_mem_nil⟩⟩⟩, by decide, by decide, by decide⟩
theorem ct_31 : ab_cok (6, 0, 116, 38) := ⟨List.forall_mem_cons.mpr ⟨List.mem_append_right _ (List.mem_of_getElem? (i := 791) (by decide +kernel)), List.forall_mem_cons.mpr ⟨im_38, List.forall_mem_cons.mpr ⟨se_38, fun _ h => absurd h List.not_mem_nil⟩⟩⟩, by decide, by decide, by decide⟩
theorem ct_32 : ab_cok (6, 1, 120, 41) := ⟨List.forall_mem_cons.mpr ⟨List.mem_append_right _ (List.mem_of_getElem? (i := 811) (by decide +kernel)), List.forall_mem_cons.mpr ⟨sx_41, fun _ h => absurd h List.not_mem_nil⟩⟩, by decide, by decide, by decide⟩
theorem ct_33 : ab_cok (6, 0, 127, 40) := ⟨List.forall_mem_cons.mpr ⟨List.mem_append_right _ (List.mem_of_getElem? (i := 822) (by decide +kernel)), List.forall_mem_cons.mpr ⟨im_40, List.forall_mem_cons.mpr ⟨se_40, fun _ h => absurd h List.not_mem_nil⟩⟩⟩, by decide, by decide, by decide⟩
theorem ct_34 : ab_cok (6, 0, 130, 43) := ⟨List.forall_mem_cons.mpr ⟨List.mem_append_right _ (List.mem_of_getElem? (i := 814) (by decide +kernel)), List.forall_mem_cons.mpr ⟨im_43, List.forall_mem_cons.mpr ⟨se_43, fun _ h => absurd h List.not_mem_nil⟩⟩⟩, by decide, by decide, by decide⟩
theorem ct_35 : ab_cok (6, 0, 134, 44) := ⟨List.forall_mem_cons.mpr ⟨List.mem_append_right _ (List.mem_of_getElem? (i := 807) (by decide +kernel)), List.forall_mem_cons.mpr ⟨im_44, List.forall_mem_cons.mpr ⟨se_44, fun _ h => absurd h List.not_mem_nil⟩⟩⟩, by decide, by decide, by decide⟩
theorem ct_36 : ab_cok (6, 0, 137, 45) := ⟨List.forall_mem_cons.mpr ⟨List.mem_append_right _ (List.mem_of_getElem? (i := 818) (by decide +kernel)), List.forall_mem_cons.mpr ⟨im_45, List.forall_mem_cons.mpr ⟨se_45, fun _ h => absurd h List.not_mem_nil⟩⟩⟩, by decide, by decide, by decide⟩
theorem ct_37 : ab_cok (6, 0, 140, 46) := ⟨List.forall_mem_cons.mpr ⟨List.mem_append_right _ (List.mem_of_getElem? (i := 826) (by decide +kernel)), List.forall_mem_cons.mpr ⟨im_46, List.forall_mem_cons.mpr ⟨se_46, fun _ h => absurd h List.not_mem_nil⟩⟩⟩, by decide, by decide, by decide⟩
theorem ct_38 : ab_cok (6, 0, 144, 39) := ⟨List.forall_mem_cons.mpr ⟨List.mem_append_right _ (List.mem_of_getElem? (i := 787) (by decide +kernel)), List.forall_mem_cons.mpr ⟨im_39, List.forall_mem_cons.mpr ⟨se_39, fun _ h => absurd h List.not_mem_nil⟩⟩⟩, by decide, by decide, by decide⟩
theorem ct_39 : ab_cok (6, 0, 147, 47) := ⟨List.forall_mem_cons.mpr ⟨List.mem_append_right _ (List.mem_of_getElem? (i := 830) (by decide +kernel)), List.forall_mem_cons.mpr ⟨im_47, List.forall_mem_cons.mpr ⟨se_47, fun _ h => absurd h List.not_mem_nil⟩⟩⟩, by decide, by decide, by decide⟩
theorem ct_40 : ab_cok (6, 0, 151, 48) := ⟨List.forall_mem_cons.mpr ⟨List.mem_append_right _ (List.mem_of_getElem? (i := 834) (by decide +kernel)), List.forall_mem_cons.mpr ⟨im_48, List.forall_mem_cons.mpr ⟨se_48, fun _ h => absurd h List.not_mem_nil⟩⟩⟩, by decide, by decide, by decide⟩
theorem ct_41 : ab_cok (6, 0, 154, 51) := ⟨List.forall_mem_cons.mpr ⟨List.mem_append_right _ (List.mem_of_getElem? (i := 846) (by decide +kernel)), List.forall_mem_cons.mpr ⟨im_51, List.forall_mem_cons.mpr ⟨se_51, fun _ h => absurd h List.not_mem_nil⟩⟩⟩, by decide, by decide, by decide⟩
theorem ct_42 : ab_cok (6, 1, 157, 52) := ⟨List.forall_mem_cons.mpr ⟨List.mem_append_right _ (List.mem_of_getElem? (i := 850) (by decide +kernel)), List.forall_mem_cons.mpr ⟨sx_52, fun _ h => absurd h List.not_mem_nil⟩⟩, by decide, by decide, by decide⟩
theorem ct_43 : ab_cok (6, 0, 160, 55) := ⟨List.forall_mem_cons.mpr ⟨List.mem_append_right _ (List.mem_of_getElem? (i := 861) (by decide +kernel)), List.forall_mem_cons.mpr ⟨im_55, List.forall_mem_cons.mpr ⟨se_55, fun _ h => absurd h List.not_mem_nil⟩⟩⟩, by decide, by decide, by decide⟩
theorem ct_44 : ab_cok (6, 0, 163, 42) := ⟨List.forall_mem_cons.mpr ⟨List.mem_append_right _ (List.mem_of_getElem? (i := 865) (by decide +kernel)), List.forall_mem_cons.mpr ⟨im_42, List.forall_mem_cons.mpr ⟨se_42, fun _ h => absurd h List.not_mem_nil⟩⟩⟩, by decide, by decide, by decide⟩
theorem ct_45 : ab_cok (6, 0, 166, 58) := ⟨List.forall_mem_cons.mpr ⟨List.mem_append_right _ (List.mem_of_getElem? (i := 885) (by decide +kernel)), List.forall_mem_cons.mpr ⟨im_58, List.forall_mem_cons.mpr ⟨se_58, fun _ h => absurd h List.not_mem_nil⟩⟩⟩, by decide, by decide, by decide⟩
theorem ct_46 : ab_cok (6, 0, 169, 59) := ⟨List.forall_mem_cons.mpr ⟨List.mem_append_right _ (List.mem_of_getElem? (i := 901) (by decide +kernel)), List.forall_mem_cons.mpr ⟨im_59, List.forall_mem_cons.mpr ⟨se_59, fun _ h => absurd h List.not_mem_nil⟩⟩⟩, by decide, by decide, by decide⟩
theorem ct_47 : ab_cok (6, 0, 172, 60) := ⟨List.forall_mem_cons.mpr ⟨List.mem_append_right _ (List.mem_of_getElem? (i := 897) (by decide +kernel)), List.forall_mem_cons.mpr ⟨im_60, List.forall_mem_cons.mpr ⟨se_60, fun _ h => absurd h List.not_mem_nil⟩⟩⟩, by decide, by decide, by decide⟩
theorem ct_48 : ab_cok (6, 0, 176, 62) := ⟨List.forall_mem_cons.mpr ⟨List.mem_append_right _ (List.mem_of_getElem? (i := 881) (by decide +kernel)), List.forall_mem_cons.mpr ⟨im_62, List.forall_mem_cons.mpr ⟨se_62, fun _ h => absurd h List.not_mem_nil⟩⟩⟩, by decide, by decide, by decide⟩
theorem ct_49 : ab_cok (6, 0, 179, 63) := ⟨List.forall_mem_cons.mpr ⟨List.mem_append_right _ (List.mem_of_getElem? (i := 889) (by decide +kernel)), List.forall_mem_cons.mpr ⟨im_63, List.forall_mem_cons.mpr ⟨se_63, fun _ h => absurd h List.not_mem_nil⟩⟩⟩, by decide, by decide, by decide⟩
theorem ct_50 : ab_cok (6, 0, 182, 64) := ⟨List.forall_mem_cons.mpr ⟨List.mem_append_right _ (List.mem_of_getElem? (i := 877) (by decide +kernel)), List.forall_mem_cons.mpr ⟨im_64, List.forall_mem_cons.mpr ⟨se_64, fun _ h => absurd h List.not_mem_nil⟩⟩⟩, by decide, by decide, by decide⟩
theorem ct_51 : ab_cok (6, 0, 185, 61) := ⟨List.forall_mem_cons.mpr ⟨List.mem_append_right _ (List.mem_of_getElem? (i := 893) (by decide +kernel)), List.forall_mem_cons.mpr ⟨im_61, List.forall_mem_cons.mpr ⟨se_61, fun _ h => absurd h List.not_mem_nil⟩⟩⟩, by decide, by decide, by decide⟩
theorem ct_52 : ab_cok (6, 0, 197, 69) := ⟨List.forall_mem_cons.mpr ⟨List.mem_append_right _ (List.mem_of_getElem? (i := 929) (by decide +kernel)), List.forall_mem_cons.mpr ⟨im_69, List.forall_mem_cons.mpr ⟨se_69, fun _ h => absurd h List.not_mem_nil⟩⟩⟩, by decide, by decide, by decide⟩
theorem ct_53 : ab_cok (6, 0, 201, 70) := ⟨List.forall_mem_cons.mpr ⟨List.mem_append_right _ (List.mem_of_getElem? (i := 933) (by decide +kernel)), List.forall_mem_cons.mpr ⟨im_70, List.forall_mem_cons.mpr ⟨se_70, fun _ h => absurd h List.not_mem_nil⟩⟩⟩, by decide, by decide, by decide⟩
theorem ct_54 : ab_cok (6, 0, 204, 71) := ⟨List.forall_mem_cons.mpr ⟨List.mem_append_right _ (List.mem_of_getElem? (i := 925) (by decide +kernel)), List.forall_mem_cons.mpr ⟨im_71, List.forall_mem_cons.mpr ⟨se_71, fun _ h => absurd h List.not_mem_nil⟩⟩⟩, by decide, by decide, by decide⟩
theorem ct_55 : ab_cok (6, 0, 207, 72) := ⟨List.forall_mem_cons.mpr ⟨List.mem_append_right _ (List.mem_of_getElem? (i := 937) (by decide +kernel)), List.forall_mem_cons.mpr ⟨im_72, List.forall_mem_cons.mpr ⟨se_72, fun _ h => absurd h List.not_mem_nil⟩⟩⟩, by decide, by decide, by decide⟩
theorem ct_56 : ab_cok (6, 0, 210, 73) := ⟨List.forall_mem_cons.mpr ⟨List.mem_append_right _ (List.mem_of_getElem? (i := 921) (by decide +kernel)), List.forall_mem_cons.mpr ⟨im_73, List.forall_mem_cons.mpr ⟨se_73, fun _ h => absurd h List.not_mem_nil⟩⟩⟩, by decide, by decide, by decide⟩
theorem ct_57 : ab_cok (0, 2, 18, 27) := ⟨List.forall_mem_cons.mpr ⟨List.mem_append_right _ (List.mem_of_getElem? (i := 428) (by decide +kernel)), List.forall_mem_cons.mpr ⟨sx_27, fun _ h => absurd h List.not_mem_nil⟩⟩, by decide, by decide, by decide⟩
theorem ct_58 : ab_cok (0, 0, 22, 80) := ⟨List.forall_mem_cons.mpr ⟨List.mem_append_right _ (List.mem_of_getElem? (i := 522) (by decide +kernel)), List.forall_mem_cons.mpr ⟨im_80, List.forall_mem_cons.mpr ⟨se_80, fun _ h => absurd h List.not_mem_nil⟩⟩⟩, by decide, by decide, by decide⟩
theorem ct_59 : ab_cok (0, 2, 26, 26) := ⟨List.forall_mem_cons.mpr ⟨List.mem_append_right _ (List.mem_of_getElem? (i := 523) (by decide +kernel)), List.forall_mem_cons.mpr ⟨sx_26, fun _ h => absurd h List.not_mem_nil⟩⟩, by decide, by decide, by decide⟩
theorem ct_60 : ab_cok (0, 0, 34, 83) := ⟨List.forall_mem_cons.mpr ⟨List.mem_append_right _ (List.mem_of_getElem? (i := 405) (by decide +kernel)), List.forall_mem_cons.mpr ⟨im_83, List.forall_mem_cons.mpr ⟨se_83, fun _ h => absurd h List.not_mem_nil⟩⟩⟩, by decide, by decide, by decide⟩
theorem ct_61 : ab_cok (0, 0, 44, 79) := ⟨List.forall_mem_cons.mpr ⟨List.mem_append_right _ (List.mem_of_getElem? (i := 412) (by decide +kernel)), List.forall_mem_cons.mpr ⟨im_79, List.forall_mem_cons.mpr ⟨se_79, fun _ h => absurd h List.not_mem_nil⟩⟩⟩, by decide, by decide, by decide⟩
theorem ct_62 : ab_cok (1, 0, 23, 114) := ⟨List.forall_mem_cons.mpr ⟨List.mem_append_right _ (List.mem_of_getElem? (i := 355) (by decide +kernel)), List.forall_mem_cons.mpr ⟨im_114, List.forall_mem_cons.mpr ⟨se_114, fun _ h => absurd h List.not_mem_nil⟩⟩⟩, by decide, by decide, by decide⟩
theorem ct_63 : ab_cok (1, 1, 28, 137) := ⟨List.forall_mem_cons.mpr ⟨List.mem_append_right _ (List.mem_of_getElem? (i := 377) (by decide +kernel)), List.forall_mem_cons.mpr ⟨sx_137, fun _ h => absurd h List.not_mem_nil⟩⟩, by decide, by decide, by decide⟩
theorem ct_64 : ab_cok (1, 0, 34, 109) := ⟨List.forall_mem_cons.mpr ⟨List.mem_append_right _ (List.mem_of_getElem? (i := 378) (by decide +kernel)), List.forall_mem_cons.mpr ⟨im_109, List.forall_mem_cons.mpr ⟨se_109, fun _ h => absurd h List.not_mem_nil⟩⟩⟩, by decide, by decide, by decide⟩
theorem ct_65 : ab_cok (1, 2, 38, 27) := ⟨List.forall_mem_cons.mpr ⟨List.mem_append_right _ (List.mem_of_getElem? (i := 382) (by decide +kernel)), List.forall_mem_cons.mpr ⟨sx_27, fun _ h => absurd h List.not_mem_nil⟩⟩, by decide, by decide, by decide⟩
theorem ct_66 : ab_cok (1, 2, 42, 26) := ⟨List.forall_mem_cons.mpr ⟨List.mem_append_right _ (List.mem_of_getElem? (i := 385) (by decide +kernel)), List.forall_mem_cons.mpr ⟨sx_26, fun _ h => absurd h List.not_mem_nil⟩⟩, by decide, by decide, by decide⟩
theorem ct_67 : ab_cok (1, 0, 46, 88) := ⟨List.forall_mem_cons.mpr ⟨List.mem_append_right _ (List.mem_of_getElem? (i := 386) (by decide +kernel)), List.forall_mem_cons.mpr ⟨im_88, List.forall_mem_cons.mpr ⟨se_88, fun _ h => absurd h List.not_mem_nil⟩⟩⟩, by decide, by decide, by decide⟩
theorem ct_68 : ab_cok (1, 0, 49, 84) := ⟨List.forall_mem_cons.mpr ⟨List.mem_append_right _ (List.mem_of_getElem? (i := 401) (by decide +kernel)), List.forall_mem_cons.mpr ⟨im_84, List.forall_mem_cons.mpr ⟨se_84, fun _ h => absurd h List.not_mem_nil⟩⟩⟩, by decide, by decide, by decide⟩
theorem ct_69 : ab_cok (1, 0, 59, 86) := ⟨List.forall_mem_cons.mpr ⟨List.mem_append_right _ (List.mem_of_getElem? (i := 416) (by decide +kernel)), List.forall_mem_cons.mpr ⟨im_86, List.forall_mem_cons.mpr ⟨se_86, fun _ h => absurd h List.not_mem_nil⟩⟩⟩, by decide, by decide, by decide⟩
theorem ct_70 : ab_cok (1, 0, 63, 91) := ⟨List.forall_mem_cons.mpr ⟨List.mem_append_right _ (List.mem_of_getElem? (i := 430) (by decide +kernel)), List.forall_mem_cons.mpr ⟨im_91, List.forall_mem_cons.mpr ⟨se_91, fun _ h => absurd h List.not_mem_nil⟩⟩⟩, by decide, by decide, by decide⟩
theorem ct_71 : ab_cok (1, 0, 66, 87) := ⟨List.forall_mem_cons.mpr ⟨List.mem_append_right _ (List.mem_of_getElem? (i := 420) (by decide +kernel)), List.forall_mem_cons.mpr ⟨im_87, List.forall_mem_cons.mpr ⟨se_87, fun _ h => absurd h List.not_mem_nil⟩⟩⟩, by decide, by decide, by decide⟩
theorem ct_72 : ab_cok (1, 0, 70, 79) := ⟨List.forall_mem_cons.mpr ⟨List.mem_append_right _ (List.mem_of_getElem? (i := 429) (by decide +kernel)), List.forall_mem_cons.mpr ⟨im_79, List.forall_mem_cons.mpr ⟨se_79, fun _ h => absurd h List.not_mem_nil⟩⟩⟩, by decide, by decide, by decide⟩
theorem ct_73 : ab_cok (1, 0, 77, 80) := ⟨List.forall_mem_cons.mpr ⟨List.mem_append_right _ (List.mem_of_getElem? (i := 424) (by decide +kernel)), List.forall_mem_cons.mpr ⟨im_80, List.forall_mem_cons.mpr ⟨se_80, fun _ h => absurd h List.not_mem_nil⟩⟩⟩, by decide, by decide, by decide⟩
theorem ct_74 : ab_cok (1, 0, 81, 111) := ⟨List.forall_mem_cons.mpr ⟨List.mem_append_right _ (List.mem_of_getElem? (i := 394) (by decide +kernel)), List.forall_mem_cons.mpr ⟨im_111, List.forall_mem_cons.mpr ⟨se_111, fun _ h => absurd h List.not_mem_nil⟩⟩⟩, by decide, by decide, by decide⟩
theorem ct_75 : ab_cok (1, 0, 84, 89) := ⟨List.forall_mem_cons.mpr ⟨List.mem_append_right _ (List.mem_of_getElem? (i := 390) (by decide +kernel)), List.forall_mem_cons.mpr ⟨im_89, List.forall_mem_cons.mpr ⟨se_89, fun _ h => absurd h List.not_mem_nil⟩⟩⟩, by decide, by decide, by decide⟩
theorem ct_76 : ab_cok (1, 2, 88, 23) := ⟨List.forall_mem_cons.mpr ⟨List.mem_append_right _ (List.mem_of_getElem? (i := 395) (by decide +kernel)), List.forall_mem_cons.mpr ⟨sx_23, fun _ h => absurd h List.not_mem_nil⟩⟩, by decide, by decide, by decide⟩
theorem ct_77 : ab_cok (1, 0, 91, 113) := ⟨List.forall_mem_cons.mpr ⟨List.mem_append_right _ (List.mem_of_getElem? (i := 396) (by decide +kernel)), List.forall_mem_cons.mpr ⟨im_113, List.forall_mem_cons.mpr ⟨se_113, fun _ h => absurd h List.not_mem_nil⟩⟩⟩, by decide, by decide, by decide⟩
theorem ct_78 : ab_cok (1, 0, 94, 90) := ⟨List.forall_mem_cons.mpr ⟨List.mem_append_right _ (List.mem_of_getElem? (i := 397) (by decide +kernel)), List.forall_mem_cons.mpr ⟨im_90, List.forall_mem_cons.mpr ⟨se_90, fun _ h => absurd h List.not_mem_nil⟩⟩⟩, by decide, by decide, by decide⟩
theorem ct_79 : ab_cok (1, 0, 101, 78) := ⟨List.forall_mem_cons.mpr ⟨List.mem_append_right _ (List.mem_of_getElem? (i := 434) (by decide +kernel)), List.forall_mem_cons.mpr ⟨im_78, List.forall_mem_cons.mpr ⟨se_78, fun _ h => absurd h List.not_mem_nil⟩⟩⟩, by decide, by decide, by decide⟩
theorem ct_80 : ab_cok (2, 0, 29, 93) := ⟨List.forall_mem_cons.mpr ⟨List.mem_append_right _ (List.mem_of_getElem? (i := 184) (by decide +kernel)), List.forall_mem_cons.mpr ⟨im_93, List.forall_mem_cons.mpr ⟨se_93, fun _ h => absurd h List.not_mem_nil⟩⟩⟩, by decide, by decide, by decide⟩
theorem ct_81 : ab_cok (2, 0, 33, 92) := ⟨List.forall_mem_cons.mpr ⟨List.mem_append_right _ (List.mem_of_getElem? (i := 551) (by decide +kernel)), List.forall_mem_cons.mpr ⟨im_92, List.forall_mem_cons.mpr ⟨se_92, fun _ h => absurd h List.not_mem_nil⟩⟩⟩, by decide, by decide, by decide⟩
theorem ct_82 : ab_cok (2, 0, 36, 97) := ⟨List.forall_mem_cons.mpr ⟨List.mem_append_right _ (List.mem_of_getElem? (i := 552) (by decide +kernel)), List.forall_mem_cons.mpr ⟨im_97, List.forall_mem_cons.mpr ⟨se_97, fun _ h => absurd h List.not_mem_nil⟩⟩⟩, by decide, by decide, by decide⟩
theorem ct_83 : ab_cok (2, 0, 40, 96) := ⟨List.forall_mem_cons.mpr ⟨List.mem_append_right _ (List.mem_of_getElem? (i := 583) (by decide +kernel)), List.forall_mem_cons.mpr ⟨im_96, List.forall_mem_cons.mpr ⟨se_96, fun _ h => absurd h List.not_mem_nil⟩⟩⟩, by decide, by decide, by decide⟩
theorem ct_84 : ab_cok (2, 0, 43, 109) := ⟨List.forall_mem_cons.mpr ⟨List.mem_append_right _ (List.mem_of_getElem? (i := 556) (by decide +kernel)), List.forall_mem_cons.mpr ⟨im_109, List.forall_mem_cons.mpr ⟨se_109, fun _ h => absurd h List.not_mem_nil⟩⟩⟩, by decide, by decide, by decide⟩
theorem ct_85 : ab_cok (2, 0, 49, 81) := ⟨List.forall_mem_cons.mpr ⟨List.mem_append_right _ (List.mem_of_getElem? (i := 578) (by decide +kernel)), List.forall_mem_cons.mpr ⟨im_81, List.forall_mem_cons.mpr ⟨se_81, fun _ h => absurd h List.not_mem_nil⟩⟩⟩, by decide, by decide, by decide⟩
theorem ct_86 : ab_cok (2, 0, 59, 99) := ⟨List.forall_mem_cons.mpr ⟨List.mem_append_right _ (List.mem_of_getElem? (i := 587) (by decide +kernel)), List.forall_mem_cons.mpr ⟨im_99, List.forall_mem_cons.mpr ⟨se_99, fun _ h => absurd h List.not_mem_nil⟩⟩⟩, by decide, by decide, by decide⟩
theorem ct_87 : ab_cok (2, 0, 63, 100) := ⟨List.forall_mem_cons.mpr ⟨List.mem_append_right _ (List.mem_of_getElem? (i := 591) (by decide +kernel)), List.forall_mem_cons.mpr ⟨im_100, List.forall_mem_cons.mpr ⟨se_100, fun _ h => absurd h List.not_mem_nil⟩⟩⟩, by decide, by decide, by decide⟩
theorem ct_88 : ab_cok (2, 0, 69, 80) := ⟨List.forall_mem_cons.mpr ⟨List.mem_append_right _ (List.mem_of_getElem? (i := 557) (by decide +kernel)), List.forall_mem_cons.mpr ⟨im_80, List.forall_mem_cons.mpr ⟨se_80, fun _ h => absurd h List.not_mem_nil⟩⟩⟩, by decide, by decide, by decide⟩
theorem ct_89 : ab_cok (2, 2, 73, 26) := ⟨List.forall_mem_cons.mpr ⟨List.mem_append_right _ (List.mem_of_getElem? (i := 558) (by decide +kernel)), List.forall_mem_cons.mpr ⟨sx_26, fun _ h => absurd h List.not_mem_nil⟩⟩, by decide, by decide, by decide⟩
theorem ct_90 : ab_cok (2, 0, 77, 98) := ⟨List.forall_mem_cons.mpr ⟨List.mem_append_right _ (List.mem_of_getElem? (i := 559) (by decide +kernel)), List.forall_mem_cons.mpr ⟨im_98, List.forall_mem_cons.mpr ⟨se_98, fun _ h => absurd h List.not_mem_nil⟩⟩⟩, by decide, by decide, by decide⟩
theorem ct_91 : ab_cok (2, 0, 84, 78) := ⟨List.forall_mem_cons.mpr ⟨List.mem_append_right _ (List.mem_of_getElem? (i := 563) (by decide +kernel)), List.forall_mem_cons.mpr ⟨im_78, List.forall_mem_cons.mpr ⟨se_78, fun _ h => absurd h List.not_mem_nil⟩⟩⟩, by decide, by decide, by decide⟩
theorem ct_92 : ab_cok (2, 2, 88, 25) := ⟨List.forall_mem_cons.mpr ⟨List.mem_append_right _ (List.mem_of_getElem? (i := 564) (by decide +kernel)), List.forall_mem_cons.mpr ⟨sx_25, fun _ h => absurd h List.not_mem_nil⟩⟩, by decide, by decide, by decide⟩
theorem ct_93 : ab_cok (2, 0, 91, 101) := ⟨List.forall_mem_cons.mpr ⟨List.mem_append_right _ (List.mem_of_getElem? (i := 567) (by decide +kernel)), List.forall_mem_cons.mpr ⟨im_101, List.forall_mem_cons.mpr ⟨se_101, fun _ h => absurd h List.not_mem_nil⟩⟩⟩, by decide, by decide, by decide⟩
theorem ct_94 : ab_cok (2, 0, 94, 102) := ⟨List.forall_mem_cons.mpr ⟨List.mem_append_right _ (List.mem_of_getElem? (i := 574) (by decide +kernel)), List.forall_mem_cons.mpr ⟨im_102, List.forall_mem_cons.mpr ⟨se_102, fun _ h => absurd h List.not_mem_nil⟩⟩⟩, by decide, by decide, by decide⟩
theorem ct_95 : ab_cok (2, 0, 97, 103) := ⟨List.forall_mem_cons.mpr ⟨List.mem_append_right _ (List.mem_of_getElem? (i := 579) (by decide +kernel)), List.forall_mem_cons.mpr ⟨im_103, List.forall_mem_cons.mpr ⟨se_103, fun _ h => absurd h List.not_mem_nil⟩⟩⟩, by decide, by decide, by decide⟩
theorem ct_96 : ab_cok (2, 0, 101, 111) := ⟨List.forall_mem_cons.mpr ⟨List.mem_append_right _ (List.mem_of_getElem? (i := 571) (by decide +kernel)), List.forall_mem_cons.mpr ⟨im_111, List.forall_mem_cons.mpr ⟨se_111, fun _ h => absurd h List.not_mem_nil⟩⟩⟩, by decide, by decide, by decide⟩
theorem ct_97 : ab_cok (2, 2, 104, 23) := ⟨List.forall_mem_cons.mpr ⟨List.mem_append_right _ (List.mem_of_getElem? (i := 572) (by decide +kernel)), List.forall_mem_cons.mpr ⟨sx_23, fun _ h => absurd h List.not_mem_nil⟩⟩, by decide, by decide, by decide⟩
theorem ct_98 : ab_cok (2, 0, 107, 113) := ⟨List.forall_mem_cons.mpr ⟨List.mem_append_right _ (List.mem_of_getElem? (i := 573) (by decide +kernel)), List.forall_mem_cons.mpr ⟨im_113, List.forall_mem_cons.mpr ⟨se_113, fun _ h => absurd h List.not_mem_nil⟩⟩⟩, by decide, by decide, by decide⟩
theorem ct_99 : ab_cok (3, 1, 28, 104) := ⟨List.forall_mem_cons.mpr ⟨List.mem_append_right _ (List.mem_of_getElem? (i := 243) (by decide +kernel)), List.forall_mem_cons.mpr ⟨sx_104, fun _ h => absurd h List.not_mem_nil⟩⟩, by decide, by decide, by decide⟩
theorem ct_100 : ab_cok (3, 1, 32, 105) := ⟨List.forall_mem_cons.mpr ⟨List.mem_append_right _ (List.mem_of_getElem? (i := 246) (by decide +kernel)), List.forall_mem_cons.mpr ⟨sx_105, fun _ h => absurd h List.not_mem_nil⟩⟩, by decide, by decide, by decide⟩
theorem ct_101 : ab_cok (3, 0, 40, 110) := ⟨List.forall_mem_cons.mpr ⟨List.mem_append_right _ (List.mem_of_getElem? (i := 338) (by decide +kernel)), List.forall_mem_cons.mpr ⟨im_110, List.forall_mem_cons.mpr ⟨se_110, fun _ h => absurd h List.not_mem_nil⟩⟩⟩, by decide, by decide, by decide⟩
theorem ct_102 : ab_cok (3, 0, 44, 111) := ⟨List.forall_mem_cons.mpr ⟨List.mem_append_right _ (List.mem_of_getElem? (i := 363) (by decide +kernel)), List.forall_mem_cons.mpr ⟨im_111, List.forall_mem_cons.mpr ⟨se_111, fun _ h => absurd h List.not_mem_nil⟩⟩⟩, by decide, by decide, by decide⟩
theorem ct_103 : ab_cok (3, 2, 47, 23) := ⟨List.forall_mem_cons.mpr ⟨List.mem_append_right _ (List.mem_of_getElem? (i := 367) (by decide +kernel)), List.forall_mem_cons.mpr ⟨sx_23, fun _ h => absurd h List.not_mem_nil⟩⟩, by decide, by decide, by decide⟩
theorem ct_104 : ab_cok (3, 2, 51, 26) := ⟨List.forall_mem_cons.mpr ⟨List.mem_append_right _ (List.mem_of_getElem? (i := 374) (by decide +kernel)), List.forall_mem_cons.mpr ⟨sx_26, fun _ h => absurd h List.not_mem_nil⟩⟩, by decide, by decide, by decide⟩
theorem ct_105 : ab_cok (3, 0, 54, 112) := ⟨List.forall_mem_cons.mpr ⟨List.mem_append_right _ (List.mem_of_getElem? (i := 359) (by decide +kernel)), List.forall_mem_cons.mpr ⟨im_112, List.forall_mem_cons.mpr ⟨se_112, fun _ h => absurd h List.not_mem_nil⟩⟩⟩, by decide, by decide, by decide⟩
theorem ct_106 : ab_cok (3, 0, 57, 113) := ⟨List.forall_mem_cons.mpr ⟨List.mem_append_right _ (List.mem_of_getElem? (i := 370) (by decide +kernel)), List.forall_mem_cons.mpr ⟨im_113, List.forall_mem_cons.mpr ⟨se_113, fun _ h => absurd h List.not_mem_nil⟩⟩⟩, by decide, by decide, by decide⟩
theorem ct_107 : ab_cok (4, 0, 45, 119) := ⟨List.forall_mem_cons.mpr ⟨List.mem_append_right _ (List.mem_of_getElem? (i := 607) (by decide +kernel)), List.forall_mem_cons.mpr ⟨im_119, List.forall_mem_cons.mpr ⟨se_119, fun _ h => absurd h List.not_mem_nil⟩⟩⟩, by decide, by decide, by decide⟩
theorem ct_108 : ab_cok (4, 0, 49, 78) := ⟨List.forall_mem_cons.mpr ⟨List.mem_append_right _ (List.mem_of_getElem? (i := 611) (by decide +kernel)), List.forall_mem_cons.mpr ⟨im_78, List.forall_mem_cons.mpr ⟨se_78, fun _ h => absurd h List.not_mem_nil⟩⟩⟩, by decide, by decide, by decide⟩
theorem ct_109 : ab_cok (4, 2, 55, 25) := ⟨List.forall_mem_cons.mpr ⟨List.mem_append_right _ (List.mem_of_getElem? (i := 612) (by decide +kernel)), List.forall_mem_cons.mpr ⟨sx_25, fun _ h => absurd h List.not_mem_nil⟩⟩, by decide, by decide, by decide⟩
theorem ct_110 : ab_cok (4, 0, 59, 120) := ⟨List.forall_mem_cons.mpr ⟨List.mem_append_right _ (List.mem_of_getElem? (i := 613) (by decide +kernel)), List.forall_mem_cons.mpr ⟨im_120, List.forall_mem_cons.mpr ⟨se_120, fun _ h => absurd h List.not_mem_nil⟩⟩⟩, by decide, by decide, by decide⟩
theorem ct_111 : ab_cok (4, 0, 62, 126) := ⟨List.forall_mem_cons.mpr ⟨List.mem_append_right _ (List.mem_of_getElem? (i := 625) (by decide +kernel)), List.forall_mem_cons.mpr ⟨im_126, List.forall_mem_cons.mpr ⟨se_126, fun _ h => absurd h List.not_mem_nil⟩⟩⟩, by decide, by decide, by decide⟩
theorem ct_112 : ab_cok (4, 0, 66, 121) := ⟨List.forall_mem_cons.mpr ⟨List.mem_append_right _ (List.mem_of_getElem? (i := 634) (by decide +kernel)), List.forall_mem_cons.mpr ⟨im_121, List.forall_mem_cons.mpr ⟨se_121, fun _ h => absurd h List.not_mem_nil⟩⟩⟩, by decide, by decide, by decide⟩
theorem ct_113 : ab_cok (4, 0, 70, 124) := ⟨List.forall_mem_cons.mpr ⟨List.mem_append_right _ (List.mem_of_getElem? (i := 617) (by decide +kernel)), List.forall_mem_cons.mpr ⟨im_124, List.forall_mem_cons.mpr ⟨se_124, fun _ h => absurd h List.not_mem_nil⟩⟩⟩, by decide, by decide, by decide⟩
theorem ct_114 : ab_cok (4, 0, 74, 125) := ⟨List.forall_mem_cons.mpr ⟨List.mem_append_right _ (List.mem_of_getElem? (i := 621) (by decide +kernel)), List.forall_mem_cons.mpr ⟨im_125, List.forall_mem_cons.mpr ⟨se_125, fun _ h => absurd h List.not_mem_nil⟩⟩⟩, by decide, by decide, by decide⟩
theorem ct_115 : ab_cok (4, 0, 78, 109) := ⟨List.forall_mem_cons.mpr ⟨List.mem_append_right _ (List.mem_of_getElem? (i := 638) (by decide +kernel)), List.forall_mem_cons.mpr ⟨im_109, List.forall_mem_cons.mpr ⟨se_109, fun _ h => absurd h List.not_mem_nil⟩⟩⟩, by decide, by decide, by decide⟩
theorem ct_116 : ab_cok (4, 0, 83, 122) := ⟨List.forall_mem_cons.mpr ⟨List.mem_append_right _ (List.mem_of_getElem? (i := 639) (by decide +kernel)), List.forall_mem_cons.mpr ⟨im_122, List.forall_mem_cons.mpr ⟨se_122, fun _ h => absurd h List.not_mem_nil⟩⟩⟩, by decide, by decide, by decide⟩
theorem ct_117 : ab_cok (4, 0, 89, 123) := ⟨List.forall_mem_cons.mpr ⟨List.mem_append_right _ (List.mem_of_getElem? (i := 644) (by decide +kernel)), List.forall_mem_cons.mpr ⟨im_123, List.forall_mem_cons.mpr ⟨se_123, fun _ h => absurd h List.not_mem_nil⟩⟩⟩, by decide, by decide, by decide⟩
theorem ct_118 : ab_cok (4, 0, 95, 117) := ⟨List.forall_mem_cons.mpr ⟨List.mem_append_right _ (List.mem_of_getElem? (i := 629) (by decide +kernel)), List.forall_mem_cons.mpr ⟨im_117, List.forall_mem_cons.mpr ⟨se_117, fun _ h => absurd h List.not_mem_nil⟩⟩⟩, by decide, by decide, by decide⟩
theorem ct_119 : ab_cok (4, 0, 98, 111) := ⟨List.forall_mem_cons.mpr ⟨List.mem_append_right _ (List.mem_of_getElem? (i := 643) (by decide +kernel)), List.forall_mem_cons.mpr ⟨im_111, List.forall_mem_cons.mpr ⟨se_111, fun _ h => absurd h List.not_mem_nil⟩⟩⟩, by decide, by decide, by decide⟩
theorem ct_120 : ab_cok (4, 0, 101, 110) := ⟨List.forall_mem_cons.mpr ⟨List.mem_append_right _ (List.mem_of_getElem? (i := 633) (by decide +kernel)), List.forall_mem_cons.mpr ⟨im_110, List.forall_mem_cons.mpr ⟨se_110, fun _ h => absurd h List.not_mem_nil⟩⟩⟩, by decide, by decide, by decide⟩
theorem ct_121 : ab_cok (7, 0, 7, 0) := ⟨List.forall_mem_cons.mpr ⟨List.mem_append_right _ (List.mem_of_getElem? (i := 236) (by decide +kernel)), List.forall_mem_cons.mpr ⟨im_0, List.forall_mem_cons.mpr ⟨se_0, fun _ h => absurd h List.not_mem_nil⟩⟩⟩, by decide, by decide, by decide⟩
theorem ct_122 : ab_cok (7, 0, 17, 2) := ⟨List.forall_mem_cons.mpr ⟨List.mem_append_right _ (List.mem_of_getElem? (i := 346) (by decide +kernel)), List.forall_mem_cons.mpr ⟨im_2, List.forall_mem_cons.mpr ⟨se_2, fun _ h => absurd h List.not_mem_nil⟩⟩⟩, by decide, by decide, by decide⟩
theorem ct_123 : ab_cok (7, 0, 23, 4) := ⟨List.forall_mem_cons.mpr ⟨List.mem_append_right _ (List.mem_of_getElem? (i := 458) (by decide +kernel)), List.forall_mem_cons.mpr ⟨im_4, List.forall_mem_cons.mpr ⟨se_4, fun _ h => absurd h List.not_mem_nil⟩⟩⟩, by decide, by decide, by decide⟩
theorem ct_124 : ab_cok (7, 0, 29, 5) := ⟨List.forall_mem_cons.mpr ⟨List.mem_append_right _ (List.mem_of_getElem? (i := 491) (by decide +kernel)), List.forall_mem_cons.mpr ⟨im_5, List.forall_mem_cons.mpr ⟨se_5, fun _ h => absurd h List.not_mem_nil⟩⟩⟩, by decide, by decide, by decide⟩
theorem ct_125 : ab_cok (7, 0, 33, 6) := ⟨List.forall_mem_cons.mpr ⟨List.mem_append_right _ (List.mem_of_getElem? (i := 505) (by decide +kernel)), List.forall_mem_cons.mpr ⟨im_6, List.forall_mem_cons.mpr ⟨se_6, fun _ h => absurd h List.not_mem_nil⟩⟩⟩, by decide, by decide, by decide⟩
theorem ct_126 : ab_cok (7, 0, 37, 7) := ⟨List.forall_mem_cons.mpr ⟨List.mem_append_right _ (List.mem_of_getElem? (i := 527) (by decide +kernel)), List.forall_mem_cons.mpr ⟨im_7, List.forall_mem_cons.mpr ⟨se_7, fun _ h => absurd h List.not_mem_nil⟩⟩⟩, by decide, by decide, by decide⟩
theorem ct_127 : ab_cok (7, 0, 40, 8) := ⟨List.forall_mem_cons.mpr ⟨List.mem_append_right _ (List.mem_of_getElem? (i := 538) (by decide +kernel)), List.forall_mem_cons.mpr ⟨im_8, List.forall_mem_cons.mpr ⟨se_8, fun _ h => absurd h List.not_mem_nil⟩⟩⟩, by decide, by decide, by decide⟩
theorem ct_128 : ab_cok (7, 0, 43, 12) := ⟨List.forall_mem_cons.mpr ⟨List.mem_append_right _ (List.mem_of_getElem? (i := 598) (by decide +kernel)), List.forall_mem_cons.mpr ⟨im_12, List.forall_mem_cons.mpr ⟨se_12, fun _ h => absurd h List.not_mem_nil⟩⟩⟩, by decide, by decide, by decide⟩
theorem ct_129 : ab_cok (7, 0, 46, 14) := ⟨List.forall_mem_cons.mpr ⟨List.mem_append_right _ (List.mem_of_getElem? (i := 651) (by decide +kernel)), List.forall_mem_cons.mpr ⟨im_14, List.forall_mem_cons.mpr ⟨se_14, fun _ h => absurd h List.not_mem_nil⟩⟩⟩, by decide, by decide, by decide⟩
theorem ct_130 : ab_cok (7, 1, 53, 127) := ⟨List.forall_mem_cons.mpr ⟨List.mem_append_right _ (List.mem_of_getElem? (i := 231) (by decide +kernel)), List.forall_mem_cons.mpr ⟨sx_127, fun _ h => absurd h List.not_mem_nil⟩⟩, by decide, by decide, by decide⟩
theorem ct_131 : ab_cok (7, 0, 58, 32) := ⟨List.forall_mem_cons.mpr ⟨List.mem_append_right _ (List.mem_of_getElem? (i := 759) (by decide +kernel)), List.forall_mem_cons.mpr ⟨im_32, List.forall_mem_cons.mpr ⟨se_32, fun _ h => absurd h List.not_mem_nil⟩⟩⟩, by decide, by decide, by decide⟩
theorem ct_132 : ab_cok (7, 0, 59, 28) := ⟨List.forall_mem_cons.mpr ⟨List.mem_append_right _ (List.mem_of_getElem? (i := 755) (by decide +kernel)), List.forall_mem_cons.mpr ⟨im_28, List.forall_mem_cons.mpr ⟨se_28, fun _ h => absurd h List.not_mem_nil⟩⟩⟩, by decide, by decide, by decide⟩
theorem ct_133 : ab_cok (7, 0, 62, 1) := ⟨List.forall_mem_cons.mpr ⟨List.mem_append_right _ (List.mem_of_getElem? (i := 172) (by decide +kernel)), List.forall_mem_cons.mpr ⟨im_1, List.forall_mem_cons.mpr ⟨se_1, fun _ h => absurd h List.not_mem_nil⟩⟩⟩, by decide, by decide, by decide⟩
theorem ct_134 : ab_cok (7, 0, 65, 34) := ⟨List.forall_mem_cons.mpr ⟨List.mem_append_right _ (List.mem_of_getElem? (i := 779) (by decide +kernel)), List.forall_mem_cons.mpr ⟨im_34, List.forall_mem_cons.mpr ⟨se_34, fun _ h => absurd h List.not_mem_nil⟩⟩⟩, by decide, by decide, by decide⟩
theorem ct_135 : ab_cok (7, 1, 66, 128) := ⟨List.forall_mem_cons.mpr ⟨List.mem_append_right _ (List.mem_of_getElem? (i := 342) (by decide +kernel)), List.forall_mem_cons.mpr ⟨sx_128, fun _ h => absurd h List.not_mem_nil⟩⟩, by decide, by decide, by decide⟩
theorem ct_136 : ab_cok (7, 0, 69, 49) := ⟨List.forall_mem_cons.mpr ⟨List.mem_append_right _ (List.mem_of_getElem? (i := 783) (by decide +kernel)), List.forall_mem_cons.mpr ⟨im_49, List.forall_mem_cons.mpr ⟨se_49, fun _ h => absurd h List.not_mem_nil⟩⟩⟩, by decide, by decide, by decide⟩
theorem ct_137 : ab_cok (7, 0, 70, 3) := ⟨List.forall_mem_cons.mpr ⟨List.mem_append_right _ (List.mem_of_getElem? (i := 196) (by decide +kernel)), List.forall_mem_cons.mpr ⟨im_3, List.forall_mem_cons.mpr ⟨se_3, fun _ h => absurd h List.not_mem_nil⟩⟩⟩, by decide, by decide, by decide⟩
theorem ct_138 : ab_cok (7, 0, 73, 50) := ⟨List.forall_mem_cons.mpr ⟨List.mem_append_right _ (List.mem_of_getElem? (i := 838) (by decide +kernel)), List.forall_mem_cons.mpr ⟨im_50, List.forall_mem_cons.mpr ⟨se_50, fun _ h => absurd h List.not_mem_nil⟩⟩⟩, by decide, by decide, by decide⟩
theorem ct_139 : ab_cok (7, 1, 74, 129) := ⟨List.forall_mem_cons.mpr ⟨List.mem_append_right _ (List.mem_of_getElem? (i := 454) (by decide +kernel)), List.forall_mem_cons.mpr ⟨sx_129, fun _ h => absurd h List.not_mem_nil⟩⟩, by decide, by decide, by decide⟩
theorem ct_140 : ab_cok (7, 0, 77, 53) := ⟨List.forall_mem_cons.mpr ⟨List.mem_append_right _ (List.mem_of_getElem? (i := 842) (by decide +kernel)), List.forall_mem_cons.mpr ⟨im_53, List.forall_mem_cons.mpr ⟨se_53, fun _ h => absurd h List.not_mem_nil⟩⟩⟩, by decide, by decide, by decide⟩
theorem ct_141 : ab_cok (7, 1, 78, 130) := ⟨List.forall_mem_cons.mpr ⟨List.mem_append_right _ (List.mem_of_getElem? (i := 488) (by decide +kernel)), List.forall_mem_cons.mpr ⟨sx_130, fun _ h => absurd h List.not_mem_nil⟩⟩, by decide, by decide, by decide⟩
theorem ct_142 : ab_cok (7, 0, 81, 54) := ⟨List.forall_mem_cons.mpr ⟨List.mem_append_right _ (List.mem_of_getElem? (i := 853) (by decide +kernel)), List.forall_mem_cons.mpr ⟨im_54, List.forall_mem_cons.mpr ⟨se_54, fun _ h => absurd h List.not_mem_nil⟩⟩⟩, by decide, by decide, by decide⟩
theorem ct_143 : ab_cok (7, 1, 82, 131) := ⟨List.forall_mem_cons.mpr ⟨List.mem_append_right _ (List.mem_of_getElem? (i := 502) (by decide +kernel)), List.forall_mem_cons.mpr ⟨sx_131, fun _ h => absurd h List.not_mem_nil⟩⟩, by decide, by decide, by decide⟩
theorem ct_144 : ab_cok (7, 0, 85, 56) := ⟨List.forall_mem_cons.mpr ⟨List.mem_append_right _ (List.mem_of_getElem? (i := 857) (by decide +kernel)), List.forall_mem_cons.mpr ⟨im_56, List.forall_mem_cons.mpr ⟨se_56, fun _ h => absurd h List.not_mem_nil⟩⟩⟩, by decide, by decide, by decide⟩
theorem ct_145 : ab_cok (7, 1, 86, 132) := ⟨List.forall_mem_cons.mpr ⟨List.mem_append_right _ (List.mem_of_getElem? (i := 524) (by decide +kernel)), List.forall_mem_cons.mpr ⟨sx_132, fun _ h => absurd h List.not_mem_nil⟩⟩, by decide, by decide, by decide⟩
theorem ct_146 : ab_cok (7, 0, 88, 57) := ⟨List.forall_mem_cons.mpr ⟨List.mem_append_right _ (List.mem_of_getElem? (i := 869) (by decide +kernel)), List.forall_mem_cons.mpr ⟨im_57, List.forall_mem_cons.mpr ⟨se_57, fun _ h => absurd h List.not_mem_nil⟩⟩⟩, by decide, by decide, by decide⟩
theorem ct_147 : ab_cok (7, 1, 89, 133) := ⟨List.forall_mem_cons.mpr ⟨List.mem_append_right _ (List.mem_of_getElem? (i := 535) (by decide +kernel)), List.forall_mem_cons.mpr ⟨sx_133, fun _ h => absurd h List.not_mem_nil⟩⟩, by decide, by decide, by decide⟩
theorem ct_148 : ab_cok (7, 0, 91, 65) := ⟨List.forall_mem_cons.mpr ⟨List.mem_append_right _ (List.mem_of_getElem? (i := 873) (by decide +kernel)), List.forall_mem_cons.mpr ⟨im_65, List.forall_mem_cons.mpr ⟨se_65, fun _ h => absurd h List.not_mem_nil⟩⟩⟩, by decide, by decide, by decide⟩
theorem ct_149 : ab_cok (7, 0, 92, 9) := ⟨List.forall_mem_cons.mpr ⟨List.mem_append_right _ (List.mem_of_getElem? (i := 200) (by decide +kernel)), List.forall_mem_cons.mpr ⟨im_9, List.forall_mem_cons.mpr ⟨se_9, fun _ h => absurd h List.not_mem_nil⟩⟩⟩, by decide, by decide, by decide⟩
theorem ct_150 : ab_cok (7, 0, 95, 66) := ⟨List.forall_mem_cons.mpr ⟨List.mem_append_right _ (List.mem_of_getElem? (i := 905) (by decide +kernel)), List.forall_mem_cons.mpr ⟨im_66, List.forall_mem_cons.mpr ⟨se_66, fun _ h => absurd h List.not_mem_nil⟩⟩⟩, by decide, by decide, by decide⟩
theorem ct_151 : ab_cok (7, 0, 96, 10) := ⟨List.forall_mem_cons.mpr ⟨List.mem_append_right _ (List.mem_of_getElem? (i := 208) (by decide +kernel)), List.forall_mem_cons.mpr ⟨im_10, List.forall_mem_cons.mpr ⟨se_10, fun _ h => absurd h List.not_mem_nil⟩⟩⟩, by decide, by decide, by decide⟩
theorem ct_152 : ab_cok (7, 0, 99, 67) := ⟨List.forall_mem_cons.mpr ⟨List.mem_append_right _ (List.mem_of_getElem? (i := 909) (by decide +kernel)), List.forall_mem_cons.mpr ⟨im_67, List.forall_mem_cons.mpr ⟨se_67, fun _ h => absurd h List.not_mem_nil⟩⟩⟩, by decide, by decide, by decide⟩
theorem ct_153 : ab_cok (7, 0, 100, 11) := ⟨List.forall_mem_cons.mpr ⟨List.mem_append_right _ (List.mem_of_getElem? (i := 219) (by decide +kernel)), List.forall_mem_cons.mpr ⟨im_11, List.forall_mem_cons.mpr ⟨se_11, fun _ h => absurd h List.not_mem_nil⟩⟩⟩, by decide, by decide, by decide⟩
theorem ct_154 : ab_cok (7, 0, 103, 68) := ⟨List.forall_mem_cons.mpr ⟨List.mem_append_right _ (List.mem_of_getElem? (i := 913) (by decide +kernel)), List.forall_mem_cons.mpr ⟨im_68, List.forall_mem_cons.mpr ⟨se_68, fun _ h => absurd h List.not_mem_nil⟩⟩⟩, by decide, by decide, by decide⟩
theorem ct_155 : ab_cok (7, 1, 104, 134) := ⟨List.forall_mem_cons.mpr ⟨List.mem_append_right _ (List.mem_of_getElem? (i := 595) (by decide +kernel)), List.forall_mem_cons.mpr ⟨sx_134, fun _ h => absurd h List.not_mem_nil⟩⟩, by decide, by decide, by decide⟩
theorem ct_156 : ab_cok (7, 0, 106, 74) := ⟨List.forall_mem_cons.mpr ⟨List.mem_append_right _ (List.mem_of_getElem? (i := 917) (by decide +kernel)), List.forall_mem_cons.mpr ⟨im_74, List.forall_mem_cons.mpr ⟨se_74, fun _ h => absurd h List.not_mem_nil⟩⟩⟩, by decide, by decide, by decide⟩
theorem ct_157 : ab_cok (7, 0, 107, 13) := ⟨List.forall_mem_cons.mpr ⟨List.mem_append_right _ (List.mem_of_getElem? (i := 223) (by decide +kernel)), List.forall_mem_cons.mpr ⟨im_13, List.forall_mem_cons.mpr ⟨se_13, fun _ h => absurd h List.not_mem_nil⟩⟩⟩, by decide, by decide, by decide⟩
theorem ct_158 : ab_cok (7, 0, 110, 75) := ⟨List.forall_mem_cons.mpr ⟨List.mem_append_right _ (List.mem_of_getElem? (i := 941) (by decide +kernel)), List.forall_mem_cons.mpr ⟨im_75, List.forall_mem_cons.mpr ⟨se_75, fun _ h => absurd h List.not_mem_nil⟩⟩⟩, by decide, by decide, by decide⟩
theorem ct_159 : ab_cok (7, 1, 111, 135) := ⟨List.forall_mem_cons.mpr ⟨List.mem_append_right _ (List.mem_of_getElem? (i := 648) (by decide +kernel)), List.forall_mem_cons.mpr ⟨sx_135, fun _ h => absurd h List.not_mem_nil⟩⟩, by decide, by decide, by decide⟩
theorem ct_160 : ab_cok (7, 0, 113, 76) := ⟨List.forall_mem_cons.mpr ⟨List.mem_append_right _ (List.mem_of_getElem? (i := 945) (by decide +kernel)), List.forall_mem_cons.mpr ⟨im_76, List.forall_mem_cons.mpr ⟨se_76, fun _ h => absurd h List.not_mem_nil⟩⟩⟩, by decide, by decide, by decide⟩
theorem ct_161 : ab_cok (7, 0, 114, 15) := ⟨List.forall_mem_cons.mpr ⟨List.mem_append_right _ (List.mem_of_getElem? (i := 227) (by decide +kernel)), List.forall_mem_cons.mpr ⟨im_15, List.forall_mem_cons.mpr ⟨se_15, fun _ h => absurd h List.not_mem_nil⟩⟩⟩, by decide, by decide, by decide⟩
theorem ct_162 : ab_cok (7, 0, 117, 77) := ⟨List.forall_mem_cons.mpr ⟨List.mem_append_right _ (List.mem_of_getElem? (i := 949) (by decide +kernel)), List.forall_mem_cons.mpr ⟨im_77, List.forall_mem_cons.mpr ⟨se_77, fun _ h => absurd h List.not_mem_nil⟩⟩⟩, by decide, by decide, by decide⟩
set_option maxRecDepth 100000 in
theorem ab_cwok : ∀ q ∈ ab_CT, ab_cok q := List.forall_mem_cons.mpr ⟨ct_0, List.forall_mem_cons.mpr ⟨ct_1, List.forall_mem_cons.mpr ⟨ct_2, List.forall_mem_cons.mpr ⟨ct_3, List.forall_mem_cons.mpr ⟨ct_4, List.forall_mem_cons.mpr ⟨ct_5, List.forall_mem_cons.mpr ⟨ct_6, List.forall_mem_cons.mpr ⟨ct_7, List.forall_mem_cons.mpr ⟨ct_8, List.forall_mem_cons.mpr ⟨ct_9, List.forall_mem_cons.mpr ⟨ct_10, List.forall_mem_cons.mpr ⟨ct_11, List.forall_mem_cons.mpr ⟨ct_12, List.forall_mem_cons.mpr ⟨ct_13, List.forall_mem_cons.mpr ⟨ct_14, List.forall_mem_cons.mpr ⟨ct_15, List.forall_mem_cons.mpr ⟨ct_16, List.forall_mem_cons.mpr ⟨ct_17, List.forall_mem_cons.mpr ⟨ct_18, List.forall_mem_cons.mpr ⟨ct_19, List.forall_mem_cons.mpr ⟨ct_20, List.forall_mem_cons.mpr ⟨ct_21, List.forall_mem_cons.mpr ⟨ct_22, List.forall_mem_cons.mpr ⟨ct_23, List.forall_mem_cons.mpr ⟨ct_24, List.forall_mem_cons.mpr ⟨ct_25, List.forall_mem_cons.mpr ⟨ct_26, List.forall_mem_cons.mpr ⟨ct_27, List.forall_mem_cons.mpr ⟨ct_28, List.forall_mem_cons.mpr ⟨ct_29, List.forall_mem_cons.mpr ⟨ct_30, List.forall_mem_cons.mpr ⟨ct_31, List.forall_mem_cons.mpr ⟨ct_32, List.forall_mem_cons.mpr ⟨ct_33, List.forall_mem_cons.mpr ⟨ct_34, List.forall_mem_cons.mpr ⟨ct_35, List.forall_mem_cons.mpr ⟨ct_36, List.forall_mem_cons.mpr ⟨ct_37, List.forall_mem_cons.mpr ⟨ct_38, List.forall_mem_cons.mpr ⟨ct_39, List.forall_mem_cons.mpr ⟨ct_40, List.forall_mem_cons.mpr ⟨ct_41, List.forall_mem_cons.mpr ⟨ct_42, List.forall_mem_cons.mpr ⟨ct_43, List.forall_mem_cons.mpr ⟨ct_44, List.forall_mem_cons.mpr ⟨ct_45, List.forall_mem_cons.mpr ⟨ct_46, List.forall_mem_cons.mpr ⟨ct_47, List.forall_mem_cons.mpr ⟨ct_48, List.forall_mem_cons.mpr ⟨ct_49, List.forall_mem_cons.mpr ⟨ct_50, List.forall_mem_cons.mpr ⟨ct_51, List.forall_mem_cons.mpr ⟨ct_52, List.forall_mem_cons.mpr ⟨ct_53, List.forall_mem_cons.mpr ⟨ct_54, List.forall_mem_cons.mpr ⟨ct_55, List.forall_mem_cons.mpr ⟨ct_56, List.forall_mem_cons.mpr ⟨ct_57, List.forall_mem_cons.mpr ⟨ct_58, List.forall_mem_cons.mpr ⟨ct_59, List.forall_mem_cons.mpr ⟨ct_60, List.forall_mem_cons.mpr ⟨ct_61, List.forall_mem_cons.mpr ⟨ct_62, List.forall_mem_cons.mpr ⟨ct_63, List.forall_mem_cons.mpr ⟨ct_64, List.forall_mem_cons.mpr ⟨ct_65, List.forall_mem_cons.mpr ⟨ct_66, List.forall_mem_cons.mpr ⟨ct_67, List.forall_mem_cons.mpr ⟨ct_68, List.forall_mem_cons.mpr ⟨ct_69, List.forall_mem_cons.mpr ⟨ct_70, List.forall_mem_cons.mpr ⟨ct_71, List.forall_mem_cons.mpr ⟨ct_72, List.forall_mem_cons.mpr ⟨ct_73, List.forall_mem_cons.mpr ⟨ct_74, List.forall_mem_cons.mpr ⟨ct_75, List.forall_mem_cons.mpr ⟨ct_76, List.forall_mem_cons.mpr ⟨ct_77, List.forall_mem_cons.mpr ⟨ct_78, List.forall_mem_cons.mpr ⟨ct_79, List.forall_mem_cons.mpr ⟨ct_80, List.forall_mem_cons.mpr ⟨ct_81, List.forall_mem_cons.mpr ⟨ct_82, List.forall_mem_cons.mpr ⟨ct_83, List.forall_mem_cons.mpr ⟨ct_84, List.forall_mem_cons.mpr ⟨ct_85, List.forall_mem_cons.mpr ⟨ct_86, List.forall_mem_cons.mpr ⟨ct_87, List.forall_mem_cons.mpr ⟨ct_88, List.forall_mem_cons.mpr ⟨ct_89, List.forall_mem_cons.mpr ⟨ct_90, List.forall_mem_cons.mpr ⟨ct_91, List.forall_mem_cons.mpr ⟨ct_92, List.forall_mem_cons.mpr ⟨ct_93, List.forall_mem_cons.mpr ⟨ct_94, List.forall_mem_cons.mpr ⟨ct_95, List.forall_mem_cons.mpr ⟨ct_96, List.forall_mem_cons.mpr ⟨ct_97, List.forall_mem_cons.mpr ⟨ct_98, List.forall_mem_cons.mpr ⟨ct_99, List.forall_mem_cons.mpr ⟨ct_100, List.forall_mem_cons.mpr ⟨ct_101, List.forall_mem_cons.mpr ⟨ct_102, List.forall_mem_cons.mpr ⟨ct_103, List.forall_mem_cons.mpr ⟨ct_104, List.forall_mem_cons.mpr ⟨ct_105, List.forall_mem_cons.mpr ⟨ct_106, List.forall_mem_cons.mpr ⟨ct_107, List.forall_mem_cons.mpr ⟨ct_108, List.forall_mem_cons.mpr ⟨ct_109, List.forall_mem_cons.mpr ⟨ct_110, List.forall_mem_cons.mpr ⟨ct_111, List.forall_mem_cons.mpr ⟨ct_112, List.forall_mem_cons.mpr ⟨ct_113, List.forall_mem_cons.mpr ⟨ct_114, List.forall_mem_cons.mpr ⟨ct_115, List.forall_mem_cons.mpr ⟨ct_116, List.forall_mem_cons.mpr ⟨ct_117, List.forall_mem_cons.mpr ⟨ct_118, List.forall_mem_cons.mpr ⟨ct_119, List.forall_mem_cons.mpr ⟨ct_120, List.forall_mem_cons.mpr ⟨ct_121, List.forall_mem_cons.mpr ⟨ct_122, List.forall_mem_cons.mpr ⟨ct_123, List.forall_mem_cons.mpr ⟨ct_124, List.forall_mem_cons.mpr ⟨ct_125, List.forall_mem_cons.mpr ⟨ct_126, List.forall_mem_cons.mpr ⟨ct_127, List.forall_mem_cons.mpr ⟨ct_128, List.forall_mem_cons.mpr ⟨ct_129, List.forall_mem_cons.mpr ⟨ct_130, List.forall_mem_cons.mpr ⟨ct_131, List.forall_mem_cons.mpr ⟨ct_132, List.forall_mem_cons.mpr ⟨ct_133, List.forall_mem_cons.mpr ⟨ct_134, List.forall_mem_cons.mpr ⟨ct_135, List.forall_mem_cons.mpr ⟨ct_136, List.forall_mem_cons.mpr ⟨ct_137, List.forall_mem_cons.mpr ⟨ct_138, List.forall_mem_cons.mpr ⟨ct_139, List.forall_mem_cons.mpr ⟨ct_140, List.forall_mem_cons.mpr ⟨ct_141, List.forall_mem_cons.mpr ⟨ct_142, List.forall_mem_cons.mpr ⟨ct_143, List.forall_mem_cons.mpr ⟨ct_144, List.forall_mem_cons.mpr ⟨ct_145, List.forall_mem_cons.mpr ⟨ct_146, List.forall_mem_cons.mpr ⟨ct_147, List.forall_mem_cons.mpr ⟨ct_148, List.forall_mem_cons.mpr ⟨ct_149, List.forall_mem_cons.mpr ⟨ct_150, List.forall_mem_cons.mpr ⟨ct_151, List.forall_mem_cons.mpr ⟨ct_152, List.forall_mem_cons.mpr ⟨ct_153, List.forall_mem_cons.mpr ⟨ct_154, List.forall_mem_cons.mpr ⟨ct_155, List.forall_mem_cons.mpr ⟨ct_156, List.forall_mem_cons.mpr ⟨ct_157, List.forall_mem_cons.mpr ⟨ct_158, List.forall_mem_cons.mpr ⟨ct_159, List.forall_mem_cons.mpr ⟨ct_160, List.forall_mem_cons.mpr ⟨ct_161, List.forall_mem_cons.mpr ⟨ct_162, fun _ h => absurd h List.not_mem_nil⟩⟩⟩⟩⟩⟩⟩⟩⟩⟩⟩⟩⟩⟩⟩⟩⟩⟩⟩⟩⟩⟩⟩⟩⟩⟩⟩⟩⟩⟩⟩⟩⟩⟩⟩⟩⟩⟩⟩⟩⟩⟩⟩⟩⟩⟩⟩⟩⟩⟩⟩⟩⟩⟩⟩⟩⟩⟩⟩⟩⟩⟩⟩⟩⟩⟩⟩⟩⟩⟩⟩⟩⟩⟩⟩⟩⟩⟩⟩⟩⟩⟩⟩⟩⟩⟩⟩⟩⟩⟩⟩⟩⟩⟩⟩⟩⟩⟩⟩⟩⟩⟩⟩⟩⟩⟩⟩⟩⟩⟩⟩⟩⟩⟩⟩⟩⟩⟩⟩⟩⟩⟩⟩⟩⟩⟩⟩⟩⟩⟩⟩⟩⟩⟩⟩⟩⟩⟩⟩⟩⟩⟩⟩⟩⟩⟩⟩⟩⟩⟩⟩⟩⟩⟩⟩⟩⟩⟩⟩⟩⟩⟩⟩
end
section
/-! The world of the pure machine as cells of a heap; numbers as 32 bits. -/
section World9
def ab_tv (ad : Nat → Nat) : ab_V → Value
  | Sum.inl x => .int (Int32.ofInt x)
  | Sum.inr (Sum.inl k) => .ref (ad k)
  | Sum.inr (Sum.inr x) => .long (Int64.ofInt x)
def ab_fs (ad : Nat → Nat) (g : Int → Int) : Nat → List (Option Nat) → List Value
  | _, [] => []
  | k, some r :: t => .ref (ad r) :: ab_fs ad g (k + 1) t
  | k, none :: t => .int (Int32.ofInt (g ((k : Nat) : Int))) :: ab_fs ad g (k + 1) t
def ab_ce (ad : Nat → Nat) (cA : Nat → ClassId) (g : Int → Int) (e : ab_D) : va_E := match e.1 with
  | 0 => .inl (cA 0, (e.2.1, .inl (fun j => Int32.ofInt (g ((j : Nat) : Int)))))
  | 1 => .inl (cA 1, (e.2.1, .inl (fun j => Int32.ofInt (g ((j : Nat) : Int)))))
  | 2 => .inl (cA 2, (e.2.1, .inr (.inl (fun j => Int64.ofInt (g ((j : Nat) : Int))))))
  | _ => .inr (e.2.1, ab_fs ad g 0 e.2.2)
def ab_wr (ad : Nat → Nat) (cA : Nat → ClassId) (h : ab_S) : Nat → List ab_D → va_W
  | _, [] => []
  | k, e :: t => (ad k, ab_ce ad cA (h k) e) :: ab_wr ad cA h (k + 1) t
def ab_wl (ad : Nat → Nat) (cA : Nat → ClassId) (h : ab_S) : va_W := ab_wr ad cA h 0 ab_lay
variable {ad : Nat → Nat} {cA : Nat → ClassId} {h : ab_S}
theorem ab_wr_get : ∀ (L : List ab_D) (k0 k : Nat), k < L.length → (ab_wr ad cA h k0 L)[k]? = some (ad (k0 + k), ab_ce ad cA (h (k0 + k)) (ab_nd L k))
  | [], _, _, hk => absurd hk (by simp)
  | e :: t, k0, 0, _ => rfl
  | e :: t, k0, k + 1, hk => by
    have := ab_wr_get t (k0 + 1) k (by simpa using hk)
    rw [show k0 + (k + 1) = k0 + 1 + k by omega]
    exact this
theorem ab_wr_len : ∀ (L : List ab_D) (k0 : Nat), (ab_wr ad cA h k0 L).length = L.length
  | [], _ => rfl
  | e :: t, k0 => by rw [ab_wr, List.length_cons, ab_wr_len t, List.length_cons]
theorem ab_lay_len : ab_lay.length = 38 := rfl
theorem ab_wl_get {k : Nat} (hk : k < 38) : (ab_wl ad cA h)[k]? = some (ad k, ab_ce ad cA (h k) (ab_nd ab_lay k)) := by
  have := ab_wr_get (ad := ad) (cA := cA) (h := h) ab_lay 0 k (by rw [ab_lay_len]; exact hk)
  rw [Nat.zero_add] at this
  exact this
theorem ab_wl_set {k : Nat} (hk : k < 38) (g : Int → Int) {e : va_E} (he : e = ab_ce ad cA g (ab_nd ab_lay k)) : (ab_wl ad cA h).set k (ad k, e) = ab_wl ad cA (fun k' => if k' = k then g else h k') := by
  subst he
  apply List.ext_getElem?
  intro j
  rw [List.getElem?_set]
  have hl : ∀ h : ab_S, (ab_wl ad cA h).length = 38 := fun h => (ab_wr_len _ _).trans ab_lay_len
  by_cases e : k = j
  · subst e
    rw [if_pos rfl, if_pos (by rw [hl]; exact hk), ab_wl_get hk, if_pos rfl]
  · rw [if_neg e]
    by_cases hj : j < 38
    · rw [ab_wl_get hj, ab_wl_get hj, if_neg (fun q => e q.symm)]
    · rw [List.getElem?_eq_none (by rw [hl]; omega), List.getElem?_eq_none (by rw [hl]; omega)]
theorem ab_up_fun {k : Nat} {i v : Int} : ab_up h k i v = fun k' => if k' = k then (fun i' => if i' = i then v else h k i') else h k' := by
  funext k' i'
  unfold ab_up
  by_cases e : k' = k
  · subst e
    simp
  · simp [e]
/-- a kind below 3 is a cell of the world -/
theorem ab_nd_lt : ∀ (L : List ab_D) (k : Nat), (ab_nd L k).1 ≠ 9 → k < L.length
  | [], k, h => absurd rfl h
  | e :: t, 0, _ => by simp
  | e :: t, k + 1, h => by
    have := ab_nd_lt t k h
    simp only [List.length_cons]
    omega
theorem ab_fs_get : ∀ (fl : List (Option Nat)) (g : Int → Int) (k0 k : Nat) (v : Option Nat), ab_nf fl k = some v → (ab_fs ad g k0 fl)[k]? = some (match v with
    | some r => .ref (ad r)
    | none => .int (Int32.ofInt (g (((k0 + k : Nat) : Nat) : Int))))
  | [], _, _, _, _, h => nomatch h
  | some r :: t, g, k0, 0, v, h => by cases Option.some.inj h; rfl
  | none :: t, g, k0, 0, v, h => by cases Option.some.inj h; rfl
  | some r :: t, g, k0, k + 1, v, h => by
    have := ab_fs_get t g (k0 + 1) k v h
    rw [show k0 + (k + 1) = k0 + 1 + k by omega]
    exact this
  | none :: t, g, k0, k + 1, v, h => by
    have := ab_fs_get t g (k0 + 1) k v h
    rw [show k0 + (k + 1) = k0 + 1 + k by omega]
    exact this
theorem ab_fs_off : ∀ (fl : List (Option Nat)) (g : Int → Int) (k0 : Nat) (i v : Int), i < (k0 : Nat) → ab_fs ad (fun j => if j = i then v else g j) k0 fl = ab_fs ad g k0 fl
  | [], _, _, _, _, _ => rfl
  | some r :: t, g, k0, i, v, hi => by
    show _ :: _ = _ :: _
    rw [ab_fs_off t g (k0 + 1) i v (by omega)]
  | none :: t, g, k0, i, v, hi => by
    show _ :: _ = _ :: _
    rw [ab_fs_off t g (k0 + 1) i v (by omega)]
    dsimp only
    rw [if_neg (by omega)]
theorem ab_fs_set : ∀ (fl : List (Option Nat)) (g : Int → Int) (k0 k : Nat) (v : Int), ab_nf fl k = some none → (ab_fs ad g k0 fl).set k (.int (Int32.ofInt v)) = ab_fs ad (fun j => if j = (((k0 + k : Nat) : Nat) : Int) then v else g j) k0 fl
  | [], _, _, _, _, h => nomatch h
  | some r :: t, g, k0, 0, v, h => by cases h
  | none :: t, g, k0, 0, v, h => by
    show _ :: _ = _ :: _
    rw [ab_fs_off t g (k0 + 1) ((k0 + 0 : Nat) : Int) v (by omega)]
    dsimp only
    rw [if_pos (by omega)]
  | some r :: t, g, k0, k + 1, v, h => by
    show _ :: _ = _ :: _
    rw [ab_fs_set t g (k0 + 1) k v h, show k0 + 1 + k = k0 + (k + 1) by omega]
  | none :: t, g, k0, k + 1, v, h => by
    show _ :: _ = _ :: _
    rw [ab_fs_set t g (k0 + 1) k v h, show k0 + 1 + k = k0 + (k + 1) by omega]
    dsimp only
    rw [if_neg (by omega)]
theorem ab_fs_len : ∀ (fl : List (Option Nat)) (g : Int → Int) (k0 : Nat), (ab_fs ad g k0 fl).length = fl.length
  | [], _, _ => rfl
  | some r :: t, g, k0 => by
    show (_ :: _).length = _
    rw [List.length_cons, ab_fs_len t, List.length_cons]
  | none :: t, g, k0 => by
    show (_ :: _).length = _
    rw [List.length_cons, ab_fs_len t, List.length_cons]
theorem ab_nf_lt : ∀ (fl : List (Option Nat)) (k : Nat) (v : Option Nat), ab_nf fl k = some v → k < fl.length
  | [], _, _, h => nomatch h
  | _ :: t, 0, _, _ => by simp
  | _ :: t, k + 1, v, h => by
    have := ab_nf_lt t k v h
    simp only [List.length_cons]
    omega
theorem i3_toInt {x : Int} (hx : ab_rg x) : (Int32.ofInt x).toInt = x := Int32.toInt_ofInt_of_le hx.1 (by have := hx.2; omega)
theorem i3_lt {x y : Int} (hx : ab_rg x) (hy : ab_rg y) : Int32.ofInt x < Int32.ofInt y ↔ x < y := by
  rw [Int32.lt_iff_toInt_lt, i3_toInt hx, i3_toInt hy]
theorem i3_le {x y : Int} (hx : ab_rg x) (hy : ab_rg y) : Int32.ofInt x ≤ Int32.ofInt y ↔ x ≤ y := by
  rw [Int32.le_iff_toInt_le, i3_toInt hx, i3_toInt hy]
theorem i3_eq {x y : Int} (hx : ab_rg x) (hy : ab_rg y) : Int32.ofInt x = Int32.ofInt y ↔ x = y := by
  constructor
  · intro e
    rw [← i3_toInt hx, ← i3_toInt hy, e]
  · intro e
    rw [e]
theorem i3_rg (x : Int32) : ab_rg x.toInt := ⟨Int32.le_toInt x, by have := Int32.toInt_lt x; omega⟩
theorem i3_of (x : Int32) : Int32.ofInt x.toInt = x := Int32.ofInt_toInt x
theorem i3_in {i : Int} {n : Nat} (hi : ab_rg i) (h0 : 0 ≤ i) (hn : i < n) : vp_in (Int32.ofInt i) n := by
  rw [vp_in_iff, i3_toInt hi]
  exact ⟨h0, hn⟩
theorem i3_clamp {i : Int} (hi : ab_rg i) : (Int32.ofInt i).toNatClampNeg = i.toNat := by
  show (Int32.ofInt i).toInt.toNat = i.toNat
  rw [i3_toInt hi]
theorem i3_upd {g : Int → Int} {i v : Int} (hi : ab_rg i) (h0 : 0 ≤ i) : upd (fun j : Nat => Int32.ofInt (g (j : Int))) (Int32.ofInt i).toNatClampNeg (Int32.ofInt v) = fun j : Nat => Int32.ofInt ((fun i' => if i' = i then v else g i') (j : Int)) := by
  funext j
  rw [i3_clamp hi]
  unfold upd
  by_cases e : j = i.toNat
  · rw [if_pos e]
    dsimp only
    rw [if_pos (by omega)]
  · rw [if_neg e]
    dsimp only
    rw [if_neg (by omega)]
theorem i3_updL {g : Int → Int} {i v : Int} (hi : ab_rg i) (h0 : 0 ≤ i) : vp_updL (fun j : Nat => Int64.ofInt (g (j : Int))) (Int32.ofInt i).toNatClampNeg (Int64.ofInt v) = fun j : Nat => Int64.ofInt ((fun i' => if i' = i then v else g i') (j : Int)) := by
  funext j
  rw [i3_clamp hi]
  unfold vp_updL
  by_cases e : j = i.toNat
  · rw [if_pos e]
    dsimp only
    rw [if_pos (by omega)]
  · rw [if_neg e]
    dsimp only
    rw [if_neg (by omega)]
end World9
end
section
/-! No instruction of the pure machine counts exceptions; how long it is. -/
section Det2
theorem ab_up_39 {h : ab_S} {k : Nat} {i v : Int} (hk : ¬ k = 39) : ab_up h k i v 39 0 = h 39 0 := by
  unfold ab_up
  rw [if_neg (fun e => hk e.symm)]
theorem ab_nd39 : (ab_nd ab_lay 39).1 = 9 := rfl
theorem ab_w1_39 {t : ab_I} {ls st : List ab_V} {h : ab_S} {K : List ab_V → List ab_V → ab_S → Prop} (H : ab_w1 t ls st h K) : ∃ ls1 st1 h1, K ls1 st1 h1 ∧ h1 39 0 = h 39 0 := by
  obtain ⟨pc, ins, len, x1, x2⟩ := t
  cases ins
  case iconst n => exact ⟨_, _, _, H, rfl⟩
  case bipush n => exact ⟨_, _, _, H, rfl⟩
  case sipush n => exact ⟨_, _, _, H, rfl⟩
  case lconst n => exact ⟨_, _, _, H, rfl⟩
  case iload_n k =>
    obtain ⟨x, e, H⟩ := ab_gI_of H
    exact ⟨_, _, _, H, rfl⟩
  case iload k =>
    obtain ⟨x, e, H⟩ := ab_gI_of H
    exact ⟨_, _, _, H, rfl⟩
  case aload_n k =>
    obtain ⟨x, e, H⟩ := ab_gR_of H
    exact ⟨_, _, _, H, rfl⟩
  case aload k =>
    obtain ⟨x, e, H⟩ := ab_gR_of H
    exact ⟨_, _, _, H, rfl⟩
  case istore_n k =>
    obtain ⟨x, t, rfl, H⟩ := ab_pI_of H
    exact ⟨_, _, _, H, rfl⟩
  case istore k =>
    obtain ⟨x, t, rfl, H⟩ := ab_pI_of H
    exact ⟨_, _, _, H, rfl⟩
  case iinc k n =>
    obtain ⟨x, e, H⟩ := ab_gI_of H
    exact ⟨_, _, _, H.2, rfl⟩
  case iadd =>
    obtain ⟨x, y, t, rfl, H⟩ := ab_p2_of H
    exact ⟨_, _, _, H.2, rfl⟩
  case isub =>
    obtain ⟨x, y, t, rfl, H⟩ := ab_p2_of H
    exact ⟨_, _, _, H.2, rfl⟩
  case imul =>
    obtain ⟨x, y, t, rfl, H⟩ := ab_p2_of H
    exact ⟨_, _, _, H.2, rfl⟩
  case idiv =>
    obtain ⟨x, y, t, rfl, H⟩ := ab_p2_of H
    exact ⟨_, _, _, H.2, rfl⟩
  case irem =>
    obtain ⟨x, y, t, rfl, H⟩ := ab_p2_of H
    exact ⟨_, _, _, H.2, rfl⟩
  case iand =>
    obtain ⟨x, y, t, rfl, H⟩ := ab_p2_of H
    exact ⟨_, _, _, H, rfl⟩
  case ior =>
    obtain ⟨x, y, t, rfl, H⟩ := ab_p2_of H
    exact ⟨_, _, _, H, rfl⟩
  case ixor =>
    obtain ⟨x, y, t, rfl, H⟩ := ab_p2_of H
    exact ⟨_, _, _, H, rfl⟩
  case ishl =>
    obtain ⟨x, y, t, rfl, H⟩ := ab_p2_of H
    exact ⟨_, _, _, H, rfl⟩
  case ishr =>
    obtain ⟨x, y, t, rfl, H⟩ := ab_p2_of H
    exact ⟨_, _, _, H, rfl⟩
  case iushr =>
    obtain ⟨x, y, t, rfl, H⟩ := ab_p2_of H
    exact ⟨_, _, _, H, rfl⟩
  case i2l =>
    obtain ⟨x, t, rfl, H⟩ := ab_pI_of H
    exact ⟨_, _, _, H, rfl⟩
  case lcmp =>
    obtain ⟨y, t, rfl, H⟩ := ab_pJ_of H
    obtain ⟨x, t, rfl, H⟩ := ab_pJ_of H
    exact ⟨_, _, _, H, rfl⟩
  case dup =>
    obtain ⟨v, t, rfl, hv, H⟩ := ab_p1_of (f := fun v t => K ls (v :: v :: t) h) H
    exact ⟨_, _, _, H, rfl⟩
  case dup2 =>
    obtain ⟨v, t, rfl, hv, H⟩ := ab_p1_of (f := fun v t => ab_p1 t fun w t => K ls (v :: w :: v :: w :: t) h) H
    obtain ⟨w, t, rfl, hw, H⟩ := ab_p1_of (f := fun w t => K ls (v :: w :: v :: w :: t) h) H
    exact ⟨_, _, _, H, rfl⟩
  case pop =>
    obtain ⟨v, t, rfl, hv, H⟩ := ab_p1_of (f := fun _ t => K ls t h) H
    exact ⟨_, _, _, H, rfl⟩
  case arraylength =>
    obtain ⟨r, t, rfl, H⟩ := ab_pR_of H
    exact ⟨_, _, _, H.2.2, rfl⟩
  case iaload =>
    obtain ⟨i, t, rfl, H⟩ := ab_pI_of H
    obtain ⟨r, t, rfl, H⟩ := ab_pR_of H
    obtain ⟨c, H⟩ := ab_if_of H
    exact ⟨_, _, _, H.2, rfl⟩
  case baload =>
    obtain ⟨i, t, rfl, H⟩ := ab_pI_of H
    obtain ⟨r, t, rfl, H⟩ := ab_pR_of H
    obtain ⟨c, H⟩ := ab_if_of H
    exact ⟨_, _, _, H.2, rfl⟩
  case laload =>
    obtain ⟨i, t, rfl, H⟩ := ab_pI_of H
    obtain ⟨r, t, rfl, H⟩ := ab_pR_of H
    obtain ⟨c, H⟩ := ab_if_of H
    exact ⟨_, _, _, H.2, rfl⟩
  case iastore =>
    obtain ⟨x, t, rfl, H⟩ := ab_pI_of H
    obtain ⟨i, t, rfl, H⟩ := ab_pI_of H
    obtain ⟨r, t, rfl, H⟩ := ab_pR_of H
    obtain ⟨c, H⟩ := ab_if_of H
    obtain ⟨c2, H⟩ := ab_ifn_of H
    exact ⟨_, _, _, H.2, ab_up_39 (fun e => by subst e; exact absurd c (by decide))⟩
  case bastore =>
    obtain ⟨x, t, rfl, H⟩ := ab_pI_of H
    obtain ⟨i, t, rfl, H⟩ := ab_pI_of H
    obtain ⟨r, t, rfl, H⟩ := ab_pR_of H
    obtain ⟨c, H⟩ := ab_if_of H
    exact ⟨_, _, _, H.2.2, ab_up_39 (fun e => by subst e; exact absurd c (by decide))⟩
  case lastore =>
    obtain ⟨x, t, rfl, H⟩ := ab_pJ_of H
    obtain ⟨i, t, rfl, H⟩ := ab_pI_of H
    obtain ⟨r, t, rfl, H⟩ := ab_pR_of H
    obtain ⟨c, H⟩ := ab_if_of H
    exact ⟨_, _, _, H.2.2, ab_up_39 (fun e => by subst e; exact absurd c (by decide))⟩
  case getfield q =>
    obtain ⟨r, t, rfl, H⟩ := ab_pR_of H
    obtain ⟨c, H⟩ := ab_if_of H
    obtain ⟨c2, H⟩ := ab_if_of H
    dsimp only at c c2 H
    cases e : ab_nf (ab_nd ab_lay r).2.2 x2 with
    | none => rw [e] at H; exact H.elim
    | some v =>
      cases v with
      | none =>
        rw [e] at H
        exact ⟨_, _, _, H, rfl⟩
      | some w =>
        rw [e] at H
        exact ⟨_, _, _, H, rfl⟩
  case putfield q =>
    obtain ⟨x, t, rfl, H⟩ := ab_pI_of H
    obtain ⟨r, t, rfl, H⟩ := ab_pR_of H
    obtain ⟨c, H⟩ := ab_if_of H
    obtain ⟨c2, H⟩ := ab_if_of H
    dsimp only at c c2 H
    cases e : ab_nf (ab_nd ab_lay r).2.2 x2 with
    | none => rw [e] at H; exact H.elim
    | some v =>
      cases v with
      | some w => rw [e] at H; exact H.elim
      | none =>
        rw [e] at H
        dsimp only at H
        by_cases z : ab_zf x1 x2 = true
        · rw [if_pos z] at H
          exact ⟨_, _, _, H.2, ab_up_39 (fun e => by subst e; rw [ab_nd39] at c; cases c)⟩
        · rw [if_neg z] at H
          exact ⟨_, _, _, H, ab_up_39 (fun e => by subst e; rw [ab_nd39] at c; cases c)⟩
  all_goals exact H.elim

def ab_il (i : Instr) : Nat := match i with
  | .bipush _ => 2
  | .sipush _ => 3
  | .iload _ => 2
  | .aload _ => 2
  | .istore _ => 2
  | .astore _ => 2
  | .ldc _ => 2
  | .newarray _ => 2
  | .iinc _ _ => 3
  | .getfield _ => 3
  | .putfield _ => 3
  | .goto _ => 3
  | .ifCond _ _ => 3
  | .if_icmp _ _ => 3
  | .invokevirtual _ => 3
  | .invokestatic _ => 3
  | .invokespecial _ => 3
  | .new _ => 3
  | _ => 1
def ab_lk (t : ab_I) : Bool := match t.2.1 with
  | .tableswitch _ _ _ _ => true
  | i => t.2.2.1 == ab_il i
set_option maxRecDepth 100000 in
theorem ab_lks : ∀ m ∈ ab_Ms, (m.2.2.2.2.2.2.2.all ab_lk) = true := by decide +kernel
theorem ab_lki {i n : Nat} {t : ab_I} (ht : (ab_L i)[n]? = some t) : ab_lk t = true := List.all_eq_true.mp (ab_lks _ (ab_mt_mem i)) t (List.mem_of_getElem? ht)
theorem ab_w1_ne {t : ab_I} {ls st : List ab_V} {h : ab_S} {K : List ab_V → List ab_V → ab_S → Prop} (H : ab_w1 t ls st h K) : t.2.1 ≠ .ireturn ∧ t.2.1 ≠ .return_ ∧ t.2.1 ≠ .athrow ∧ ∀ o, t.2.1 ≠ .goto o := by
  obtain ⟨pc, ins, len, x1, x2⟩ := t
  refine ⟨fun e => ?_, fun e => ?_, fun e => ?_, fun o e => ?_⟩ <;> (dsimp only at e; subst e; exact H)
theorem ab_next {i n : Nat} {t : ab_I} {ls st : List ab_V} {h : ab_S} {K : List ab_V → List ab_V → ab_S → Prop} (ht : (ab_L i)[n]? = some t) (H : ab_w1 t ls st h K) : ∃ u, (ab_L i)[n + 1]? = some u ∧ u.1 = t.1 + t.2.2.1 := by
  obtain ⟨a, b, c, d⟩ := ab_w1_ne H
  obtain ⟨u, hu⟩ := ab_end_of (ab_ends _ (ab_mt_mem i)) ht a b c d
  exact ⟨u, hu, (ab_gdi i).2 n t u ht hu⟩
end Det2
end
section
/-! The pure machine against the machine: the relation. -/
section Rel9
def ab_rv (v : ab_V) : Prop := match v with
  | Sum.inl x => ab_rg x
  | Sum.inr (Sum.inl _) => True
  | Sum.inr (Sum.inr x) => ab_rg x
def ab_rgs (l : List ab_V) : Prop := ∀ v ∈ l, ab_rv v
theorem rgs_c {v : ab_V} {l : List ab_V} (h : ab_rv v) (t : ab_rgs l) : ab_rgs (v :: l) := List.forall_mem_cons.mpr ⟨h, t⟩
theorem rgs_t {v : ab_V} {l : List ab_V} (h : ab_rgs (v :: l)) : ab_rgs l := (List.forall_mem_cons.mp h).2
theorem rgs_h {v : ab_V} {l : List ab_V} (h : ab_rgs (v :: l)) : ab_rv v := (List.forall_mem_cons.mp h).1
theorem rgs_nth {l : List ab_V} (h : ab_rgs l) (k : Nat) : ab_rv (ab_nth l k) := by
  induction l generalizing k with
  | nil => exact (show ab_rg 0 from ⟨by decide, by decide⟩)
  | cons v t ih =>
    cases k with
    | zero => exact rgs_h h
    | succ k => exact ih (rgs_t h) k
theorem rgs_st {l : List ab_V} (h : ab_rgs l) (k : Nat) {v : ab_V} (hv : ab_rv v) : ab_rgs (ab_st l k v) := by
  induction l generalizing k with
  | nil => exact h
  | cons w t ih =>
    cases k with
    | zero => exact rgs_c hv (rgs_t h)
    | succ k => exact rgs_c (rgs_h h) (ih (rgs_t h) k)
theorem nth_get {l : List ab_V} {k : Nat} {v : ab_V} (h : ab_nth l k = v) (hv : ∀ x, v ≠ vJ x) : l[k]? = some v := by
  induction l generalizing k with
  | nil => exact absurd h.symm (hv 0)
  | cons w t ih =>
    cases k with
    | zero => rw [← h]; rfl
    | succ k => exact ih h
theorem st_len (l : List ab_V) (k : Nat) (v : ab_V) : (ab_st l k v).length = l.length := by
  induction l generalizing k with
  | nil => rfl
  | cons w t ih =>
    cases k with
    | zero => rfl
    | succ k => rw [ab_st, List.length_cons, ih, List.length_cons]
theorem st_get {l : List ab_V} {k j : Nat} {v w : ab_V} (h : (ab_st l k v)[j]? = some w) : (j = k ∧ w = v) ∨ (j ≠ k ∧ l[j]? = some w) := by
  induction l generalizing k j with
  | nil => simp [ab_st] at h
  | cons u t ih =>
    cases k with
    | zero =>
      cases j with
      | zero => exact Or.inl ⟨rfl, (Option.some.inj h).symm⟩
      | succ j => exact Or.inr ⟨by omega, h⟩
    | succ k =>
      cases j with
      | zero => exact Or.inr ⟨by omega, h⟩
      | succ j =>
        rcases ih (k := k) (j := j) h with ⟨a, b⟩ | ⟨a, b⟩
        · exact Or.inl ⟨by omega, b⟩
        · exact Or.inr ⟨by omega, b⟩
/-- locals -/
def ab_lsr (ad : Nat → Nat) (nL : Nat) (ls : List ab_V) (A : Array Slot) : Prop := A.size = nL ∧ lv_wf A ∧ ls.length = nL ∧ ∀ (k : Nat) (v : ab_V), ls[k]? = some v → (∀ x, v ≠ vJ x) → A[k]? = some (.val (ab_tv ad v))
def ab_lv (ad : Nat → Nat) : Nat → List ab_V → List (Nat × Value)
  | _, [] => []
  | k, Sum.inr (Sum.inr _) :: t => ab_lv ad (k + 1) t
  | k, v :: t => (k, ab_tv ad v) :: ab_lv ad (k + 1) t
theorem lv_mem {ad : Nat → Nat} : ∀ (l : List ab_V) (k0 : Nat) (q : Nat × Value), q ∈ ab_lv ad k0 l → ∃ (k : Nat) (v : ab_V), l[k]? = some v ∧ (∀ x, v ≠ vJ x) ∧ q = (k0 + k, ab_tv ad v)
  | [], _, _, h => nomatch h
  | Sum.inr (Sum.inr y) :: t, k0, q, h => by
    obtain ⟨k, v, a, b, c⟩ := lv_mem t (k0 + 1) q h
    exact ⟨k + 1, v, a, b, by rw [c, show k0 + (k + 1) = k0 + 1 + k by omega]⟩
  | Sum.inl y :: t, k0, q, h => by
    rcases List.mem_cons.mp h with e | h
    · exact ⟨0, _, rfl, (fun _ e => nomatch e), e⟩
    · obtain ⟨k, v, a, b, c⟩ := lv_mem t (k0 + 1) q h
      exact ⟨k + 1, v, a, b, by rw [c, show k0 + (k + 1) = k0 + 1 + k by omega]⟩
  | Sum.inr (Sum.inl y) :: t, k0, q, h => by
    rcases List.mem_cons.mp h with e | h
    · exact ⟨0, _, rfl, (fun _ e => by cases e), e⟩
    · obtain ⟨k, v, a, b, c⟩ := lv_mem t (k0 + 1) q h
      exact ⟨k + 1, v, a, b, by rw [c, show k0 + (k + 1) = k0 + 1 + k by omega]⟩
theorem lv_memr {ad : Nat → Nat} : ∀ (l : List ab_V) (k0 k : Nat) (v : ab_V), l[k]? = some v → (∀ x, v ≠ vJ x) → (k0 + k, ab_tv ad v) ∈ ab_lv ad k0 l
  | [], _, _, _, h, _ => by simp at h
  | Sum.inr (Sum.inr y) :: t, k0, 0, v, h, hv => absurd (Option.some.inj h).symm (hv y)
  | Sum.inr (Sum.inr y) :: t, k0, k + 1, v, h, hv => by
    rw [show k0 + (k + 1) = k0 + 1 + k by omega]
    exact lv_memr t (k0 + 1) k v h hv
  | Sum.inl y :: t, k0, 0, v, h, hv => by
    cases Option.some.inj h
    exact List.mem_cons_self
  | Sum.inl y :: t, k0, k + 1, v, h, hv => by
    rw [show k0 + (k + 1) = k0 + 1 + k by omega]
    exact List.mem_cons_of_mem _ (lv_memr t (k0 + 1) k v h hv)
  | Sum.inr (Sum.inl y) :: t, k0, 0, v, h, hv => by
    cases Option.some.inj h
    exact List.mem_cons_self
  | Sum.inr (Sum.inl y) :: t, k0, k + 1, v, h, hv => by
    rw [show k0 + (k + 1) = k0 + 1 + k by omega]
    exact List.mem_cons_of_mem _ (lv_memr t (k0 + 1) k v h hv)
theorem ab_lsr.has {ad : Nat → Nat} {nL : Nat} {ls : List ab_V} {A : Array Slot} (h : ab_lsr ad nL ls A) : lv_has A nL (ab_lv ad 0 ls) := by
  refine ⟨h.1, h.2.1, fun q hq => ?_⟩
  obtain ⟨k, v, a, b, rfl⟩ := lv_mem ls 0 q hq
  rw [Nat.zero_add]
  exact h.2.2.2 k v a b
theorem tv_cat {ad : Nat → Nat} {v : ab_V} (hv : ∀ x, v ≠ vJ x) : (ab_tv ad v).category = 1 := by
  rcases v with x | k | x
  · rfl
  · rfl
  · exact absurd rfl (hv x)
/-- locals behind a store of a number -/
theorem ab_lsr.store {ad : Nat → Nat} {nL i : Nat} {x : Int} {ls : List ab_V} {A A' : Array Slot} (h : ab_lsr ad nL ls A) (hh : lv_has A' nL ((i, Value.int (Int32.ofInt x)) :: (ab_lv ad 0 ls).filter (fun q => !(q.1 == i) && !(q.1 + 1 == i && q.2.category == 2)))) : ab_lsr ad nL (ab_st ls i (vI x)) A' := by
  refine ⟨hh.1, hh.2.1, (st_len _ _ _).trans h.2.2.1, fun k v hk hv => ?_⟩
  rcases st_get hk with ⟨rfl, rfl⟩ | ⟨hne, hk⟩
  · exact hh.2.2 _ List.mem_cons_self
  · have hm := lv_memr (ad := ad) ls 0 k v hk hv
    rw [Nat.zero_add] at hm
    refine hh.2.2 (k, ab_tv ad v) (List.mem_cons_of_mem _ (List.mem_filter.mpr ⟨hm, ?_⟩))
    rw [tv_cat hv]
    simp [hne]
/-- the numbers of the world, and the script's -/
def ab_ro (N : Nat) (xs : Nat → Int32) (h : ab_S) : Prop := (∀ (k : Nat) (j : Int), k ≠ 39 → ab_rg (h k j)) ∧ h 38 (-1) = N ∧ ∀ j : Nat, j < N → h 38 j = (xs j).toInt
theorem ab_ro.up {N : Nat} {xs : Nat → Int32} {h : ab_S} (hr : ab_ro N xs h) {k : Nat} (hk : k < 38) (i : Int) {v : Int} (hv : ab_rg v) : ab_ro N xs (ab_up h k i v) := by
  refine ⟨fun k' j hk' => ?_, ?_, fun j hj => ?_⟩
  · unfold ab_up
    split
    · split
      · exact hv
      · exact hr.1 k' j hk'
    · exact hr.1 k' j hk'
  · unfold ab_up
    rw [if_neg (by omega)]
    exact hr.2.1
  · unfold ab_up
    rw [if_neg (by omega)]
    exact hr.2.2 j hj
def ab_xs (x : Nat) : String := ab_xn.getD x ""
/-- what stands still: the launch, the law's entry, the addresses, classes -/
def ab_E (l : Launch) (s0 : State) (a0 : Array Value) (ad : Nat → Nat) (dC : Nat → ClassId) (dI : Nat → Nat → Nat) (cA : Nat → ClassId) (N : Nat) (xs : Nat → Int32) : Prop :=
  l.stackTraces = false ∧ (∀ w ∈ lw_tbl, w.before a0 s0 = true) ∧ va_D (fun q => s0.heap.size ≤ q) (ab_wl ad cA (fun _ _ => 0)) ∧ va_K (dC, dI) ab_cls [(cA 0, .int), (cA 1, .boolean), (cA 2, .long)] s0 ∧
  ad 38 < s0.heap.size ∧ va_X (ad 38) N xs s0 s0.heap ∧ N < 2 ^ 31 ∧
  vx_Zq Bundle.tN "UNASSIGNED_STACK" Bundle.steD (fun q => s0.heap.size ≤ q) s0 s0.heap ∧ vx_Zq Bundle.tN "SUPPRESSED_SENTINEL" Bundle.listD (fun q => s0.heap.size ≤ q) s0 s0.heap ∧
  (∀ q ∈ ab_TH, ∃ (tx : String) (sa : Nat), vk_R (ab_cs q.1) q.2.2.1 tx sa s0) ∧ ∀ a ∈ List.range 4, ∀ b ∈ List.range 4, a ≠ b → va_Nc (ab_xs a) (ab_xs b) s0
/-- a frame of the method i -/
def ab_cx (s0 : State) (i : Nat) (p : Program) (R : Room) (s : State) (m : MethodId) (meth : Method) (c : Code) : Prop :=
  p.tables.exec = Jvm.exec ∧ c.code = ab_bc i ∧ c.maxLocals = ab_ml i ∧ meth.sig.returnType = ab_rt i ∧ meth.locks = false ∧ c.exceptionTable.toList = tableOf (ab_hh i) ∧ s.vm.findClass (ab_cs (ab_own i)) = some m.cls ∧
  s0.WarmedH s.vm ∧ (s0.heap.size ≤ s.heap.size ∧ ∀ q : Nat, q < s0.heap.size → s.heap[q]? = s0.heap[q]?) ∧ ab_fr i ≤ R.frames ∧ ab_lo i ≤ R.locals
def ab_Qc (s0 : State) (ad : Nat → Nat) (dC : Nat → ClassId) (dI : Nat → Nat → Nat) (cA : Nat → ClassId) (N : Nat) (xs : Nat → Int32) (o : ab_O) (h' : ab_S) : Array Value → State → Outcome → State → Prop := fun _ st oc t =>
  ∃ r, o = Sum.inl r ∧ oc = .returned (r.map (ab_tv ad)) ∧ va_P (dC, dI) ab_cls (ab_wl ad cA h') t.heap ∧ ab_ro N xs h' ∧ ab_rgs r.toList ∧ ab_nl r.toList = true ∧ va_F (fun q => s0.heap.size ≤ q) st t
def ab_XC (s0 : State) (ad : Nat → Nat) (dC : Nat → ClassId) (dI : Nat → Nat → Nat) (cA : Nat → ClassId) (N : Nat) (xs : Nat → Int32) (o : ab_O) (h' : ab_S) : String → State → State → Prop := fun E st t =>
  ∃ x, o = Sum.inr x ∧ E = ab_xs x ∧ x < 4 ∧ va_P (dC, dI) ab_cls (ab_wl ad cA h') t.heap ∧ ab_ro N xs h' ∧ va_F (fun q => s0.heap.size ≤ q) st t
/-- exceptions made between two states of the world -/
abbrev ab_k (h h' : ab_S) : Nat := (h' 39 0 - h 39 0).toNat
/-- the machine's relation -/
def ab_MM (l : Launch) (s0 : State) (ad : Nat → Nat) (dC : Nat → ClassId) (dI : Nat → Nat → Nat) (cA : Nat → ClassId) (N : Nat) (xs : Nat → Int32) : ab_Rel := fun i n ls st h o h' =>
  h 39 0 ≤ h' 39 0 ∧ ∀ (p : Program) (e : Env) (R : Room) (s : State) (m : MethodId) (args : Array Value) (below : List Frame) (meth : Method) (c : Code) (H : Heap) (locs : List Loc) (cells slots : Nat) (lsA : Array Slot) (pc : Nat),
    ab_cx s0 i p R s m meth c → cells + ab_k h h' ≤ R.cells → slots + 6 * ab_k h h' ≤ R.slots → (ab_L i)[n]?.map (fun t => t.1) = some pc → ab_ro N xs h → va_P (dC, dI) ab_cls (ab_wl ad cA h) H → va_S (fun q => s0.heap.size ≤ q) s.heap H locs →
    ab_lsr ad (ab_ml i) ls lsA → ab_rgs ls → ab_rgs st →
    W p l e R s m args below meth c H locs cells slots (vx_MQ below (ab_Qc s0 ad dC dI cA N xs o h') (ab_XC s0 ad dC dI cA N xs o h') args s (cells + ab_k h h') (slots + 6 * ab_k h h') (fun q => s0.heap.size ≤ q)) (F0 m pc lsA (st.map (ab_tv ad)))
end Rel9
end
section
/-! Straight instructions: the relation is closed. -/
section So1
theorem i3_nat (n : Nat) : Int32.ofInt (n : Int) = nI n := rfl
theorem i3_div {x y : Int} (hx : ab_rg x) (hy : ab_rg y) (h0 : 0 ≤ x) (h1 : 0 < y) : Int32.ofInt x / Int32.ofInt y = Int32.ofInt (x / y) := by
  obtain ⟨a, rfl⟩ := Int.eq_ofNat_of_zero_le h0
  obtain ⟨b, rfl⟩ := Int.eq_ofNat_of_zero_le (Int.le_of_lt h1)
  have e : ((a : Int) / (b : Int)) = ((a / b : Nat) : Int) := rfl
  have h2 := hx.2
  have h3 := hy.2
  rw [e, i3_nat, i3_nat, i3_nat, pk_div (by omega) (by omega) (by omega)]
theorem i3_mod {x y : Int} (hx : ab_rg x) (hy : ab_rg y) (h0 : 0 ≤ x) (h1 : 0 < y) : Int32.ofInt x - Int32.ofInt x / Int32.ofInt y * Int32.ofInt y = Int32.ofInt (x % y) := by
  obtain ⟨a, rfl⟩ := Int.eq_ofNat_of_zero_le h0
  obtain ⟨b, rfl⟩ := Int.eq_ofNat_of_zero_le (Int.le_of_lt h1)
  have e : ((a : Int) % (b : Int)) = ((a % b : Nat) : Int) := rfl
  have h2 := hx.2
  have h3 := hy.2
  rw [e, i3_nat, i3_nat, i3_nat, pk_rem (by omega) (by omega) (by omega)]
theorem rg_div {x y : Int} (hx : ab_rg x) (h0 : 0 ≤ x) (h1 : 0 < y) : ab_rg (x / y) := by
  have a : 0 ≤ x / y := Int.ediv_nonneg h0 (Int.le_of_lt h1)
  have b : x / y ≤ x := Int.ediv_le_self y h0
  exact ⟨by omega, by have := hx.2; omega⟩
theorem rg_mod {x y : Int} (hy : ab_rg y) (h1 : 0 < y) : ab_rg (x % y) := by
  have a : 0 ≤ x % y := Int.emod_nonneg x (by omega)
  have b : x % y < y := Int.emod_lt_of_pos x h1
  exact ⟨by omega, by have := hy.2; omega⟩
theorem rg_lc (x y : Int) : ab_rg (ab_lc x y) := by
  unfold ab_lc
  split
  · exact ⟨by decide, by decide⟩
  · split
    · exact ⟨by decide, by decide⟩
    · exact ⟨by decide, by decide⟩
theorem i6_toInt {x : Int} (hx : ab_rg x) : (Int64.ofInt x).toInt = x := Int64.toInt_ofInt_of_le (by have := hx.1; omega) (by have := hx.2; omega)
theorem i6_i2l {x : Int} (hx : ab_rg x) : (Int32.ofInt x).toInt64 = Int64.ofInt x := by
  apply Int64.toInt_inj.mp
  rw [i6_toInt hx, Int32.toInt_toInt64, i3_toInt hx]
theorem i6_cmp {x y : Int} (hx : ab_rg x) (hy : ab_rg y) : lg_cmp (Int64.ofInt x) (Int64.ofInt y) = Int32.ofInt (ab_lc x y) := by
  have e1 : Int64.ofInt x < Int64.ofInt y ↔ x < y := by rw [Int64.lt_iff_toInt_lt, i6_toInt hx, i6_toInt hy]
  have e2 : Int64.ofInt y < Int64.ofInt x ↔ y < x := by rw [Int64.lt_iff_toInt_lt, i6_toInt hx, i6_toInt hy]
  have e3 : Int64.ofInt x = Int64.ofInt y ↔ x = y := ⟨fun e => by rw [← i6_toInt hx, ← i6_toInt hy, e], fun e => by rw [e]⟩
  unfold lg_cmp ab_lc
  rcases Int.lt_trichotomy x y with h | h | h
  · simp [e1, e2, e3, h, Int.not_lt.mpr (Int.le_of_lt h), Int.ne_of_lt h]
  · subst h
    simp [e1, e2, e3]
  · simp [e1, e2, e3, h, Int.not_lt.mpr (Int.le_of_lt h), (Int.ne_of_lt h).symm]
variable {l : Launch} {s0 : State} {a0 : Array Value} {ad : Nat → Nat} {dC : Nat → ClassId} {dI : Nat → Nat → Nat} {cA : Nat → ClassId} {N : Nat} {xs : Nat → Int32}
/-- a word of the tables, later -/
theorem ab_E.word (hE : ab_E l s0 a0 ad dC dI cA N xs) {w : Cond} (hw : w ∈ lw_tbl) (hg : goodWord w = true) {s : State} (hW : s0.WarmedH s.vm) (a : Array Value) : w.before a s = true := word_at hW (good_of_word hg) (hE.2.1 w hw)
theorem ab_E.apart (hE : ab_E l s0 a0 ad dC dI cA N xs) (h : ab_S) : va_D (fun q => s0.heap.size ≤ q) (ab_wl ad cA h) := by
  obtain ⟨d1, d2⟩ := hE.2.2.1
  have hl : ∀ h : ab_S, (ab_wl ad cA h).length = 38 := fun h => (ab_wr_len _ _).trans ab_lay_len
  have key : ∀ (k : Nat) (q : Nat × va_E), (ab_wl ad cA h)[k]? = some q → (ab_wl ad cA (fun _ _ => 0))[k]? = some (q.1, ab_ce ad cA (fun _ => 0) (ab_nd ab_lay k)) := by
    intro k q hq
    have hk : k < 38 := by rw [← hl h]; exact (List.getElem?_eq_some_iff.mp hq).1
    rw [ab_wl_get hk] at hq
    rw [ab_wl_get hk, ← Option.some.inj hq]
  refine ⟨fun i j p q hp hq e => d1 i j _ _ (key i p hp) (key j q hq) e, fun k q hq => d2 k (q.1, ab_ce ad cA (fun _ => 0) (ab_nd ab_lay k)) (key k q hq)⟩
theorem ab_cls_get {c : Nat} (hc : c < 7) : ab_cls[c]? = some (ab_cs c, ab_T c, ab_N c) := by
  unfold ab_cls
  rw [List.getElem?_map, List.getElem?_range hc]
  rfl
theorem ab_ce_arr {g : Int → Int} {e : ab_D} (h : e.1 = 0) : ab_ce ad cA g e = .inl (cA 0, (e.2.1, .inl (fun j => Int32.ofInt (g ((j : Nat) : Int))))) := by
  unfold ab_ce
  rw [h]
  rfl
theorem ab_ce_arz {g : Int → Int} {e : ab_D} (h : e.1 = 1) : ab_ce ad cA g e = .inl (cA 1, (e.2.1, .inl (fun j => Int32.ofInt (g ((j : Nat) : Int))))) := by
  unfold ab_ce
  rw [h]
  rfl
theorem ab_ce_arj {g : Int → Int} {e : ab_D} (h : e.1 = 2) : ab_ce ad cA g e = .inl (cA 2, (e.2.1, .inr (.inl (fun j => Int64.ofInt (g ((j : Nat) : Int)))))) := by
  unfold ab_ce
  rw [h]
  rfl
theorem ab_ce_obj {g : Int → Int} {e : ab_D} (h : e.1 = 3) : ab_ce ad cA g e = .inr (e.2.1, ab_fs ad g 0 e.2.2) := by
  unfold ab_ce
  rw [h]
  rfl
theorem ab_ty_ne {k : Nat} (hk : ¬ k = 38) : ab_ty k = (ab_nd ab_lay k).1 := if_neg hk
theorem ab_ln_ne {h : ab_S} {k : Nat} (hk : ¬ k = 38) : ab_ln h k = (((ab_nd ab_lay k).2.1 : Nat) : Int) := if_neg hk
theorem ab_k38 {k : Nat} (h : (ab_nd ab_lay k).1 ≠ 9) : k < 38 := by
  rw [← ab_lay_len]
  exact ab_nd_lt _ _ h
theorem ab_len_le : ∀ k ∈ List.range 38, (ab_nd ab_lay k).2.1 ≤ 100000 := by decide +kernel
theorem ab_put_ok : ∀ k ∈ List.range 38, ∀ f ∈ List.range 40, (ab_nd ab_lay k).1 = 3 → ab_nf (ab_nd ab_lay k).2.2 f = some none → (ab_T (ab_nd ab_lay k).2.1 f).2.2.2 = false ∧ ((ab_tyf (ab_nd ab_lay k).2.1 f = .int ∧ ab_zf (ab_nd ab_lay k).2.1 f = false) ∨ (ab_tyf (ab_nd ab_lay k).2.1 f = .boolean ∧ ab_zf (ab_nd ab_lay k).2.1 f = true)) := by decide +kernel
theorem ab_nf_40 : ∀ k ∈ List.range 38, (ab_nd ab_lay k).2.2.length ≤ 40 := by decide +kernel
end So1
end
section
/-! Straight instructions: the relation is closed. -/
section So2
variable {l : Launch} {s0 : State} {a0 : Array Value} {ad : Nat → Nat} {dC : Nat → ClassId} {dI : Nat → Nat → Nat} {cA : Nat → ClassId} {N : Nat} {xs : Nat → Int32}
theorem w_cong {p : Program} {l : Launch} {e : Env} {R : Room} {s : State} {m : MethodId} {args : Array Value} {below : List Frame} {meth : Method} {c : Code} {H : Heap} {locs : List Loc} {cells slots : Nat} {Q : State → Prop} {pc : Nat} {A : Array Slot} {st st' : List Value} (e1 : st = st') (k : W p l e R s m args below meth c H locs cells slots Q (F0 m pc A st')) : W p l e R s m args below meth c H locs cells slots Q (F0 m pc A st) := by
  rw [e1]
  exact k
set_option maxHeartbeats 4000000 in
theorem so_1 (hE : ab_E l s0 a0 ad dC dI cA N xs) (i n : Nat) (t : ab_I) (ls st : List ab_V) (h : ab_S) (o : ab_O) (h' : ab_S) (ht : (ab_L i)[n]? = some t)
    (Hw : ab_w1 t ls st h (fun ls1 st1 h1 => ab_MM l s0 ad dC dI cA N xs i (n + 1) ls1 st1 h1 o h')) : ab_MM l s0 ad dC dI cA N xs i n ls st h o h' := by
  have hmono : h 39 0 ≤ h' 39 0 := by
    obtain ⟨ls1, st1, h1, hM, e9⟩ := ab_w1_39 Hw
    rw [← e9]
    exact hM.1
  refine ⟨hmono, ?_⟩
  intro p e R s m args below meth c Hp locs cells slots lsA pc hcx hcell hslot hpc hro hP hS hls hrl hrs
  obtain ⟨u, hu, hup⟩ := ab_next ht Hw
  obtain ⟨hd, hc1⟩ := (ab_gdi i).1 n t ht
  have hlk := ab_lki ht
  have hpc' : t.1 = pc := by
    rw [ht] at hpc
    exact Option.some.inj hpc
  have go : ∀ (ls1 st1 : List ab_V) (h1 : ab_S) (H1 : Heap) (locs1 : List Loc) (A1 : Array Slot), ab_MM l s0 ad dC dI cA N xs i (n + 1) ls1 st1 h1 o h' → h1 39 0 = h 39 0 → ab_ro N xs h1 → va_P (dC, dI) ab_cls (ab_wl ad cA h1) H1 → va_S (fun q => s0.heap.size ≤ q) s.heap H1 locs1 → ab_lsr ad (ab_ml i) ls1 A1 → ab_rgs ls1 → ab_rgs st1 →
      W p l e R s m args below meth c H1 locs1 cells slots (vx_MQ below (ab_Qc s0 ad dC dI cA N xs o h') (ab_XC s0 ad dC dI cA N xs o h') args s (cells + ab_k h h') (slots + 6 * ab_k h h') (fun q => s0.heap.size ≤ q)) (F0 m (pc + t.2.2.1) A1 (st1.map (ab_tv ad))) := by
    intro ls1 st1 h1 H1 locs1 A1 hM e9 b1 b2 b3 b4 b5 b6
    have ek : ab_k h1 h' = ab_k h h' := by unfold ab_k; rw [e9]
    have := hM.2 p e R s m args below meth c H1 locs1 cells slots A1 (pc + t.2.2.1) hcx (by rw [ek]; exact hcell) (by rw [ek]; exact hslot) (by rw [hu, ← hpc', ← hup]; rfl) b1 b2 b3 b4 b5 b6
    rw [ek] at this
    exact this
  obtain ⟨hx, hb, hml, hrt, hlks, hex, hown, hW0, hold, hfr, hlo⟩ := hcx
  have hD := hE.apart h
  have hK : va_K (dC, dI) ab_cls [(cA 0, .int), (cA 1, .boolean), (cA 2, .long)] s := va_K.moved hW0.alike hE.2.2.2.1
  have hXs : va_X (ad 38) N xs s s.heap := by
    obtain ⟨scr, q1, q2, q3, q4, q5⟩ := hE.2.2.2.2.2.1
    exact ⟨scr, by rw [hold.2 _ hE.2.2.2.2.1]; exact q1, State.isArrayOf_alike hW0.alike q2, q3, q4, q5⟩
  have hb38 : ad 38 < s.heap.size := Nat.lt_of_lt_of_le hE.2.2.2.2.1 hold.1
  have hA38 : ¬ (s0.heap.size ≤ ad 38) := Nat.not_le.mpr hE.2.2.2.2.1
  have e38 : ab_ln h 38 = (N : Int) := hro.2.1
  obtain ⟨pc0, ins, len, x1, x2⟩ := t
  dsimp only at hpc' hd hc1 go hlk
  subst hpc'
  cases ins
  case iconst n =>
    have hl : len = 1 := by simpa [ab_lk, ab_il] using hlk
    subst hl
    have hn : ab_rg n := by
      simp only [ab_c1, Bool.and_eq_true, decide_eq_true_eq] at hc1
      exact ⟨by omega, by omega⟩
    exact lv_iconst hx hb hd rfl (go _ _ _ _ _ _ Hw rfl hro hP hS hls hrl (rgs_c hn hrs))
  case bipush n =>
    have hl : len = 2 := by simpa [ab_lk, ab_il] using hlk
    subst hl
    have hn : -128 ≤ n ∧ n ≤ 127 := by
      simpa [ab_c1] using hc1
    refine lv_bipush hx hb hd ?_ (go _ _ _ _ _ _ Hw rfl hro hP hS hls hrl (rgs_c (show ab_rg n from ⟨by omega, by omega⟩) hrs))
    apply Int32.toInt_inj.mp
    rw [i3_toInt ⟨by omega, by omega⟩, Int8.toInt_toInt32, Int8.toInt_ofInt_of_le (by omega) (by omega)]
  case sipush n =>
    have hl : len = 3 := by simpa [ab_lk, ab_il] using hlk
    subst hl
    have hn : -32768 ≤ n ∧ n ≤ 32767 := by
      simpa [ab_c1] using hc1
    refine lv_sipush hx hb hd ?_ (go _ _ _ _ _ _ Hw rfl hro hP hS hls hrl (rgs_c (show ab_rg n from ⟨by omega, by omega⟩) hrs))
    apply Int32.toInt_inj.mp
    rw [i3_toInt ⟨by omega, by omega⟩, Int16.toInt_toInt32, Int16.toInt_ofInt_of_le (by omega) (by omega)]
  case lconst n =>
    have hl : len = 1 := by simpa [ab_lk, ab_il] using hlk
    subst hl
    exact lv_lconst hx hb hd rfl (go _ _ _ _ _ _ Hw rfl hro hP hS hls hrl (rgs_c (show ab_rg (((n.val : Nat) : Int)) from ⟨by omega, by omega⟩) hrs))
  case iload_n k =>
    have hl : len = 1 := by simpa [ab_lk, ab_il] using hlk
    subst hl
    obtain ⟨x, ex, HM⟩ := ab_gI_of Hw
    have hv := rgs_nth hrl k.val
    rw [ex] at hv
    exact lv_iload_n hx hb hd rfl (hls.2.2.2 _ _ (nth_get ex (fun _ e => nomatch e)) (fun _ e => nomatch e)) (go _ _ _ _ _ _ HM rfl hro hP hS hls hrl (rgs_c hv hrs))
  case iload k =>
    have hl : len = 2 := by simpa [ab_lk, ab_il] using hlk
    subst hl
    obtain ⟨x, ex, HM⟩ := ab_gI_of Hw
    have hv := rgs_nth hrl k
    rw [ex] at hv
    exact lv_iload hx hb hd (hls.2.2.2 _ _ (nth_get ex (fun _ e => nomatch e)) (fun _ e => nomatch e)) (go _ _ _ _ _ _ HM rfl hro hP hS hls hrl (rgs_c hv hrs))
  case aload_n k =>
    have hl : len = 1 := by simpa [ab_lk, ab_il] using hlk
    subst hl
    obtain ⟨x, ex, HM⟩ := ab_gR_of Hw
    have hv := rgs_nth hrl k.val
    rw [ex] at hv
    exact lv_aload_n hx hb hd rfl (hls.2.2.2 _ _ (nth_get ex (fun _ e => by cases e)) (fun _ e => by cases e)) (go _ _ _ _ _ _ HM rfl hro hP hS hls hrl (rgs_c hv hrs))
  case aload k =>
    have hl : len = 2 := by simpa [ab_lk, ab_il] using hlk
    subst hl
    obtain ⟨x, ex, HM⟩ := ab_gR_of Hw
    have hv := rgs_nth hrl k
    rw [ex] at hv
    exact lv_aload hx hb hd (hls.2.2.2 _ _ (nth_get ex (fun _ e => by cases e)) (fun _ e => by cases e)) (go _ _ _ _ _ _ HM rfl hro hP hS hls hrl (rgs_c hv hrs))
  case istore_n k =>
    have hl : len = 1 := by simpa [ab_lk, ab_il] using hlk
    subst hl
    obtain ⟨x, t, rfl, HM⟩ := ab_pI_of Hw
    have hk : k.val < ab_ml i := by simpa [ab_c1] using hc1
    exact lv_istore_n hx hb hd rfl hls.has hk rfl (fun A' hA' => go _ _ _ _ _ _ HM rfl hro hP hS (hls.store hA') (rgs_st hrl _ (rgs_h hrs)) (rgs_t hrs))
  case istore k =>
    have hl : len = 2 := by simpa [ab_lk, ab_il] using hlk
    subst hl
    obtain ⟨x, t, rfl, HM⟩ := ab_pI_of Hw
    have hk : k < ab_ml i := by simpa [ab_c1] using hc1
    exact lv_istore hx hb hd hls.has hk rfl (fun A' hA' => go _ _ _ _ _ _ HM rfl hro hP hS (hls.store hA') (rgs_st hrl _ (rgs_h hrs)) (rgs_t hrs))
  case iinc k z =>
    have hl : len = 3 := by simpa [ab_lk, ab_il] using hlk
    subst hl
    obtain ⟨x, ex, hz, HM⟩ := ab_gI_of Hw
    have hk : k < ab_ml i := by
      simp only [ab_c1, Bool.and_eq_true, decide_eq_true_eq] at hc1
      exact hc1.1.1
    have hm := lv_memr (ad := ad) ls 0 k _ (nth_get ex (fun _ e => nomatch e)) (fun _ e => nomatch e)
    rw [Nat.zero_add] at hm
    obtain ⟨j, hj⟩ := List.getElem?_of_mem hm
    exact lv_iinc hx hb hd hls.has hj (Int32.ofInt_add x z).symm hk rfl (fun A' hA' => go _ _ _ _ _ _ HM rfl hro hP hS (hls.store hA') (rgs_st hrl _ hz) hrs)
  case iadd =>
    have hl : len = 1 := by simpa [ab_lk, ab_il] using hlk
    subst hl
    obtain ⟨x, y, t, rfl, hz, HM⟩ := ab_p2_of Hw
    refine lv_iadd hx hb hd ?_
    rw [← Int32.ofInt_add]
    exact go _ _ _ _ _ _ HM rfl hro hP hS hls hrl (rgs_c hz (rgs_t (rgs_t hrs)))
  case isub =>
    have hl : len = 1 := by simpa [ab_lk, ab_il] using hlk
    subst hl
    obtain ⟨x, y, t, rfl, hz, HM⟩ := ab_p2_of Hw
    refine lv_isub hx hb hd ?_
    rw [← Int32.ofInt_sub]
    exact go _ _ _ _ _ _ HM rfl hro hP hS hls hrl (rgs_c hz (rgs_t (rgs_t hrs)))
  case imul =>
    have hl : len = 1 := by simpa [ab_lk, ab_il] using hlk
    subst hl
    obtain ⟨x, y, t, rfl, hz, HM⟩ := ab_p2_of Hw
    refine lv_imul hx hb hd ?_
    rw [← Int32.ofInt_mul]
    exact go _ _ _ _ _ _ HM rfl hro hP hS hls hrl (rgs_c hz (rgs_t (rgs_t hrs)))
  case idiv =>
    have hl : len = 1 := by simpa [ab_lk, ab_il] using hlk
    subst hl
    obtain ⟨x, y, t, rfl, hz, HM⟩ := ab_p2_of Hw
    have ry : ab_rg y := rgs_h hrs
    have rx : ab_rg x := rgs_h (rgs_t hrs)
    refine lv_idiv hx hb hd (fun q => ?_) ?_
    · have := (i3_eq ry (show ab_rg 0 from ⟨by decide, by decide⟩)).mp q
      omega
    · rw [i3_div rx ry hz.1 hz.2]
      exact go _ _ _ _ _ _ HM rfl hro hP hS hls hrl (rgs_c (rg_div rx hz.1 hz.2) (rgs_t (rgs_t hrs)))
  case irem =>
    have hl : len = 1 := by simpa [ab_lk, ab_il] using hlk
    subst hl
    obtain ⟨x, y, t, rfl, hz, HM⟩ := ab_p2_of Hw
    have ry : ab_rg y := rgs_h hrs
    have rx : ab_rg x := rgs_h (rgs_t hrs)
    refine lv_irem hx hb hd (fun q => ?_) ?_
    · have := (i3_eq ry (show ab_rg 0 from ⟨by decide, by decide⟩)).mp q
      omega
    · rw [i3_mod rx ry hz.1 hz.2]
      exact go _ _ _ _ _ _ HM rfl hro hP hS hls hrl (rgs_c (rg_mod ry hz.2) (rgs_t (rgs_t hrs)))
  case iand =>
    have hl : len = 1 := by simpa [ab_lk, ab_il] using hlk
    subst hl
    obtain ⟨x, y, t, rfl, HM⟩ := ab_p2_of Hw
    exact lv_iand hx hb hd (w_cong (by show _ = Value.int (Int32.ofInt (b_and x y)) :: _; unfold b_and; rw [i3_of]) (go _ _ _ _ _ _ HM rfl hro hP hS hls hrl (rgs_c (i3_rg _) (rgs_t (rgs_t hrs)))))
  case ior =>
    have hl : len = 1 := by simpa [ab_lk, ab_il] using hlk
    subst hl
    obtain ⟨x, y, t, rfl, HM⟩ := ab_p2_of Hw
    exact lv_ior hx hb hd (w_cong (by show _ = Value.int (Int32.ofInt (b_or x y)) :: _; unfold b_or; rw [i3_of]) (go _ _ _ _ _ _ HM rfl hro hP hS hls hrl (rgs_c (i3_rg _) (rgs_t (rgs_t hrs)))))
  case ixor =>
    have hl : len = 1 := by simpa [ab_lk, ab_il] using hlk
    subst hl
    obtain ⟨x, y, t, rfl, HM⟩ := ab_p2_of Hw
    exact lv_ixor hx hb hd (w_cong (by show _ = Value.int (Int32.ofInt (b_xor x y)) :: _; unfold b_xor; rw [i3_of]) (go _ _ _ _ _ _ HM rfl hro hP hS hls hrl (rgs_c (i3_rg _) (rgs_t (rgs_t hrs)))))
  case ishl =>
    have hl : len = 1 := by simpa [ab_lk, ab_il] using hlk
    subst hl
    obtain ⟨x, y, t, rfl, HM⟩ := ab_p2_of Hw
    exact lv_ishl hx hb hd (w_cong (by show _ = Value.int (Int32.ofInt (b_shl x y)) :: _; unfold b_shl; rw [i3_of]) (go _ _ _ _ _ _ HM rfl hro hP hS hls hrl (rgs_c (i3_rg _) (rgs_t (rgs_t hrs)))))
  case ishr =>
    have hl : len = 1 := by simpa [ab_lk, ab_il] using hlk
    subst hl
    obtain ⟨x, y, t, rfl, HM⟩ := ab_p2_of Hw
    exact lv_ishr hx hb hd (w_cong (by show _ = Value.int (Int32.ofInt (b_shr x y)) :: _; unfold b_shr; rw [i3_of]) (go _ _ _ _ _ _ HM rfl hro hP hS hls hrl (rgs_c (i3_rg _) (rgs_t (rgs_t hrs)))))
  case iushr =>
    have hl : len = 1 := by simpa [ab_lk, ab_il] using hlk
    subst hl
    obtain ⟨x, y, t, rfl, HM⟩ := ab_p2_of Hw
    exact lv_iushr hx hb hd rfl (w_cong (by show _ = Value.int (Int32.ofInt (b_ushr x y)) :: _; unfold b_ushr; rw [i3_of]) (go _ _ _ _ _ _ HM rfl hro hP hS hls hrl (rgs_c (i3_rg _) (rgs_t (rgs_t hrs)))))
  case i2l =>
    have hl : len = 1 := by simpa [ab_lk, ab_il] using hlk
    subst hl
    obtain ⟨x, t, rfl, HM⟩ := ab_pI_of Hw
    have rx : ab_rg x := rgs_h hrs
    exact lv_i2l hx hb hd (i6_i2l rx) (go _ _ _ _ _ _ HM rfl hro hP hS hls hrl (rgs_c rx (rgs_t hrs)))
  case lcmp =>
    have hl : len = 1 := by simpa [ab_lk, ab_il] using hlk
    subst hl
    obtain ⟨y, t, rfl, HM⟩ := ab_pJ_of Hw
    obtain ⟨x, t, rfl, HM⟩ := ab_pJ_of HM
    have ry : ab_rg y := rgs_h hrs
    have rx : ab_rg x := rgs_h (rgs_t hrs)
    refine W.lcmp hx hb hd ?_
    rw [i6_cmp rx ry]
    exact go _ _ _ _ _ _ HM rfl hro hP hS hls hrl (rgs_c (rg_lc x y) (rgs_t (rgs_t hrs)))
  case dup =>
    have hl : len = 1 := by simpa [ab_lk, ab_il] using hlk
    subst hl
    obtain ⟨v, t, rfl, hv, HM⟩ := ab_p1_of (f := fun v t => ab_MM l s0 ad dC dI cA N xs i (n + 1) ls (v :: v :: t) h o h') Hw
    exact lv_dup hx hb hd (tv_cat hv) (go _ _ _ _ _ _ HM rfl hro hP hS hls hrl (rgs_c (rgs_h hrs) hrs))
  case dup2 =>
    have hl : len = 1 := by simpa [ab_lk, ab_il] using hlk
    subst hl
    obtain ⟨v, t, rfl, hv, HM⟩ := ab_p1_of (f := fun v t => ab_p1 t fun w t => ab_MM l s0 ad dC dI cA N xs i (n + 1) ls (v :: w :: v :: w :: t) h o h') Hw
    obtain ⟨w, t, rfl, hw, HM⟩ := ab_p1_of (f := fun w t => ab_MM l s0 ad dC dI cA N xs i (n + 1) ls (v :: w :: v :: w :: t) h o h') HM
    exact lv_dup2_11 hx hb hd (tv_cat hv) (tv_cat hw) (go _ _ _ _ _ _ HM rfl hro hP hS hls hrl (rgs_c (rgs_h hrs) (rgs_c (rgs_h (rgs_t hrs)) hrs)))
  case pop =>
    have hl : len = 1 := by simpa [ab_lk, ab_il] using hlk
    subst hl
    obtain ⟨v, t, rfl, hv, HM⟩ := ab_p1_of (f := fun _ t => ab_MM l s0 ad dC dI cA N xs i (n + 1) ls t h o h') Hw
    exact lv_pop hx hb hd (tv_cat hv) (go _ _ _ _ _ _ HM rfl hro hP hS hls hrl (rgs_t hrs))
  case arraylength =>
    have hl : len = 1 := by simpa [ab_lk, ab_il] using hlk
    subst hl
    obtain ⟨k, t, rfl, hk, hty, HM⟩ := ab_pR_of Hw
    by_cases e : k = 38
    · subst e
      refine va_slen (A := fun q => s0.heap.size ≤ q) hx hb hXs hb38 hA38 hS hd ?_
      exact w_cong (by show _ = Value.int (Int32.ofInt (ab_ln h 38)) :: _; rw [e38]; rfl) (go _ _ _ _ _ _ HM rfl hro hP hS hls hrl (rgs_c (show ab_rg (ab_ln h 38) from hro.1 38 (-1) (by decide)) (rgs_t hrs)))
    · have hk' : k < 38 := by omega
      have hle := ab_len_le k (List.mem_range.mpr hk')
      rw [ab_ty_ne e] at hty
      have ha := ab_wl_get (ad := ad) (cA := cA) (h := h) hk'
      have hv : Int32.ofNat (ab_nd ab_lay k).2.1 = Int32.ofInt (ab_ln h k) := by rw [ab_ln_ne e]; rfl
      have hr : ab_rv (vI (ab_ln h k)) := by rw [ab_ln_ne e]; exact ⟨by omega, by omega⟩
      have key := go _ _ _ _ _ _ HM rfl hro hP hS hls hrl (rgs_c hr (rgs_t hrs))
      rcases (show (ab_nd ab_lay k).1 = 0 ∨ (ab_nd ab_lay k).1 = 1 ∨ (ab_nd ab_lay k).1 = 2 by omega) with z | z | z
      · rw [ab_ce_arr z] at ha
        exact va_alen hx hb hK hP k 0 ha rfl hv hd key
      · rw [ab_ce_arz z] at ha
        exact va_alen hx hb hK hP k 1 ha rfl hv hd key
      · rw [ab_ce_arj z] at ha
        exact va_alen hx hb hK hP k 2 ha rfl hv hd key
  case iaload =>
    have hl : len = 1 := by simpa [ab_lk, ab_il] using hlk
    subst hl
    obtain ⟨j, t, rfl, HM⟩ := ab_pI_of Hw
    obtain ⟨k, t, rfl, HM⟩ := ab_pR_of HM
    obtain ⟨hty, HM⟩ := ab_if_of HM
    obtain ⟨hj, HM⟩ := HM
    have rj : ab_rg j := rgs_h hrs
    by_cases e : k = 38
    · subst e
      rw [e38] at hj
      refine va_sld (A := fun q => s0.heap.size ≤ q) hx hb hXs hb38 hA38 hS (i3_in rj hj.1 hj.2) hd ?_
      have e2 : h 38 j = (xs j.toNat).toInt := by
        have := hro.2.2 j.toNat (by omega)
        rwa [Int.toNat_of_nonneg hj.1] at this
      exact w_cong (by show _ = Value.int (Int32.ofInt (h 38 j)) :: _; rw [i3_clamp rj, e2, i3_of]) (go _ _ _ _ _ _ HM rfl hro hP hS hls hrl (rgs_c (show ab_rg (h 38 j) from hro.1 38 j (by decide)) (rgs_t (rgs_t hrs))))
    · rw [ab_ty_ne e] at hty
      rw [ab_ln_ne e] at hj
      have hk' : k < 38 := ab_k38 (by rw [hty]; decide)
      have ha := ab_wl_get (ad := ad) (cA := cA) (h := h) hk'
      rw [ab_ce_arr hty] at ha
      refine va_iald hx hb hK hP k 0 ha rfl (i3_in rj hj.1 hj.2) hd ?_
      exact w_cong (by show _ = Value.int (Int32.ofInt (h k j)) :: _; rw [i3_clamp rj, Int.toNat_of_nonneg hj.1]) (go _ _ _ _ _ _ HM rfl hro hP hS hls hrl (rgs_c (show ab_rg (h k j) from hro.1 k j (by omega)) (rgs_t (rgs_t hrs))))
  case baload =>
    have hl : len = 1 := by simpa [ab_lk, ab_il] using hlk
    subst hl
    obtain ⟨j, t, rfl, HM⟩ := ab_pI_of Hw
    obtain ⟨k, t, rfl, HM⟩ := ab_pR_of HM
    obtain ⟨hty, HM⟩ := ab_if_of HM
    obtain ⟨hj, HM⟩ := HM
    have rj : ab_rg j := rgs_h hrs
    have e : ¬ k = 38 := fun e => by subst e; exact absurd hty (by decide)
    · rw [ab_ty_ne e] at hty
      rw [ab_ln_ne e] at hj
      have hk' : k < 38 := ab_k38 (by rw [hty]; decide)
      have ha := ab_wl_get (ad := ad) (cA := cA) (h := h) hk'
      rw [ab_ce_arz hty] at ha
      refine va_zald hx hb hK hP k 1 ha rfl (i3_in rj hj.1 hj.2) hd ?_
      exact w_cong (by show _ = Value.int (Int32.ofInt (h k j)) :: _; rw [i3_clamp rj, Int.toNat_of_nonneg hj.1]) (go _ _ _ _ _ _ HM rfl hro hP hS hls hrl (rgs_c (show ab_rg (h k j) from hro.1 k j (by omega)) (rgs_t (rgs_t hrs))))
  case laload =>
    have hl : len = 1 := by simpa [ab_lk, ab_il] using hlk
    subst hl
    obtain ⟨j, t, rfl, HM⟩ := ab_pI_of Hw
    obtain ⟨k, t, rfl, HM⟩ := ab_pR_of HM
    obtain ⟨hty, HM⟩ := ab_if_of HM
    obtain ⟨hj, HM⟩ := HM
    have rj : ab_rg j := rgs_h hrs
    have e : ¬ k = 38 := fun e => by subst e; exact absurd hty (by decide)
    · rw [ab_ty_ne e] at hty
      rw [ab_ln_ne e] at hj
      have hk' : k < 38 := ab_k38 (by rw [hty]; decide)
      have ha := ab_wl_get (ad := ad) (cA := cA) (h := h) hk'
      rw [ab_ce_arj hty] at ha
      refine va_lald hx hb hK hP k 2 ha rfl (i3_in rj hj.1 hj.2) hd ?_
      exact w_cong (by show _ = Value.long (Int64.ofInt (h k j)) :: _; rw [i3_clamp rj, Int.toNat_of_nonneg hj.1]) (go _ _ _ _ _ _ HM rfl hro hP hS hls hrl (rgs_c (show ab_rg (h k j) from hro.1 k j (by omega)) (rgs_t (rgs_t hrs))))
  case iastore =>
    have hl : len = 1 := by simpa [ab_lk, ab_il] using hlk
    subst hl
    obtain ⟨x, t, rfl, HM⟩ := ab_pI_of Hw
    obtain ⟨j, t, rfl, HM⟩ := ab_pI_of HM
    obtain ⟨k, t, rfl, HM⟩ := ab_pR_of HM
    obtain ⟨hty, HM⟩ := ab_if_of HM
    obtain ⟨e, HM⟩ := ab_ifn_of HM
    obtain ⟨hj, HM⟩ := HM
    have rx : ab_rg x := rgs_h hrs
    have rj : ab_rg j := rgs_h (rgs_t hrs)
    rw [ab_ty_ne e] at hty
    rw [ab_ln_ne e] at hj
    have hk' : k < 38 := ab_k38 (by rw [hty]; decide)
    have ha := ab_wl_get (ad := ad) (cA := cA) (h := h) hk'
    rw [ab_ce_arr hty] at ha
    refine va_iast hx hb hK hP hD hS k 0 ha rfl (i3_in rj hj.1 hj.2) hd (fun H1 locs1 p1 d1 s1 => ?_)
    rw [i3_upd rj hj.1, ab_wl_set hk' (fun i' => if i' = j then x else h k i') (ab_ce_arr hty).symm, ← ab_up_fun] at p1
    exact go _ _ _ _ _ _ HM (ab_up_39 (by omega)) (hro.up hk' j rx) p1 s1 hls hrl (rgs_t (rgs_t (rgs_t hrs)))
  case bastore =>
    have hl : len = 1 := by simpa [ab_lk, ab_il] using hlk
    subst hl
    obtain ⟨x, t, rfl, HM⟩ := ab_pI_of Hw
    obtain ⟨j, t, rfl, HM⟩ := ab_pI_of HM
    obtain ⟨k, t, rfl, HM⟩ := ab_pR_of HM
    obtain ⟨hty, HM⟩ := ab_if_of HM
    have e : ¬ k = 38 := fun e => by subst e; exact absurd hty (by decide)
    obtain ⟨hj, hx01, HM⟩ := HM
    have rx : ab_rg x := rgs_h hrs
    have rj : ab_rg j := rgs_h (rgs_t hrs)
    rw [ab_ty_ne e] at hty
    rw [ab_ln_ne e] at hj
    have hk' : k < 38 := ab_k38 (by rw [hty]; decide)
    have ha := ab_wl_get (ad := ad) (cA := cA) (h := h) hk'
    rw [ab_ce_arz hty] at ha
    refine va_zast hx hb hK hP hD hS k 1 ha rfl (i3_in rj hj.1 hj.2) hd (fun H1 locs1 p1 d1 s1 => ?_)
    have en : vp_nar .boolean (Int32.ofInt x) = Int32.ofInt x := by
      rcases hx01 with rfl | rfl <;> rfl
    rw [en] at p1
    rw [i3_upd rj hj.1, ab_wl_set hk' (fun i' => if i' = j then x else h k i') (ab_ce_arz hty).symm, ← ab_up_fun] at p1
    exact go _ _ _ _ _ _ HM (ab_up_39 (by omega)) (hro.up hk' j rx) p1 s1 hls hrl (rgs_t (rgs_t (rgs_t hrs)))
  case lastore =>
    have hl : len = 1 := by simpa [ab_lk, ab_il] using hlk
    subst hl
    obtain ⟨x, t, rfl, HM⟩ := ab_pJ_of Hw
    obtain ⟨j, t, rfl, HM⟩ := ab_pI_of HM
    obtain ⟨k, t, rfl, HM⟩ := ab_pR_of HM
    obtain ⟨hty, HM⟩ := ab_if_of HM
    have e : ¬ k = 38 := fun e => by subst e; exact absurd hty (by decide)
    obtain ⟨hj, hx01, HM⟩ := HM
    have rx : ab_rg x := rgs_h hrs
    have rj : ab_rg j := rgs_h (rgs_t hrs)
    rw [ab_ty_ne e] at hty
    rw [ab_ln_ne e] at hj
    have hk' : k < 38 := ab_k38 (by rw [hty]; decide)
    have ha := ab_wl_get (ad := ad) (cA := cA) (h := h) hk'
    rw [ab_ce_arj hty] at ha
    refine va_last hx hb hK hP hD hS k 2 ha rfl (i3_in rj hj.1 hj.2) hd (fun H1 locs1 p1 d1 s1 => ?_)
    rw [i3_updL rj hj.1, ab_wl_set hk' (fun i' => if i' = j then x else h k i') (ab_ce_arj hty).symm, ← ab_up_fun] at p1
    exact go _ _ _ _ _ _ HM (ab_up_39 (by omega)) (hro.up hk' j rx) p1 s1 hls hrl (rgs_t (rgs_t (rgs_t hrs)))
  case getfield q =>
    have hl : len = 3 := by simpa [ab_lk, ab_il] using hlk
    subst hl
    obtain ⟨k, t, rfl, HM⟩ := ab_pR_of Hw
    obtain ⟨c3, HM⟩ := ab_if_of HM
    obtain ⟨ck, HM⟩ := ab_if_of HM
    dsimp only at c3 ck HM
    have hk' : k < 38 := ab_k38 (by rw [c3]; decide)
    have hft : (ab_own i, q, x1, x2) ∈ ab_FT := by simpa [ab_c1] using hc1
    obtain ⟨w1, w2, w3, w4⟩ := ab_fwok _ hft
    dsimp only at w3 w4
    have ha := ab_wl_get (ad := ad) (cA := cA) (h := h) hk'
    rw [ab_ce_obj c3, ck] at ha
    have hts : ∀ w ∈ u_ws (ab_cs x1) (ab_T x1) (ab_N x1), w.before args s = true := fun w hw => hE.word (ab_layok x1 (List.mem_range.mpr w3) w hw).1 (ab_layok x1 (List.mem_range.mpr w3) w hw).2 hW0 args
    have hlink : (Cond.fieldLink (ab_cs (ab_own i)) q (ab_cs x1) (ab_T x1 x2).2.1 (ab_T x1 x2).2.2.1).before args s = true := hE.word w1 w2 hW0 args
    cases en : ab_nf (ab_nd ab_lay k).2.2 x2 with
    | none => rw [en] at HM; exact HM.elim
    | some v =>
      have hv := ab_fs_get (ad := ad) _ (h k) 0 x2 v en
      rw [Nat.zero_add] at hv
      cases v with
      | none =>
        rw [en] at HM
        exact va_get hx hb hts (fun w hw => hw) hown hK hP k ha (ab_cls_get w3) x2 w4 hlink (fun _ z => z) hv hd (go _ _ _ _ _ _ HM rfl hro hP hS hls hrl (rgs_c (show ab_rg (h k _) from hro.1 k _ (by omega)) (rgs_t hrs)))
      | some r =>
        rw [en] at HM
        exact va_get hx hb hts (fun w hw => hw) hown hK hP k ha (ab_cls_get w3) x2 w4 hlink (fun _ z => z) hv hd (go _ _ _ _ _ _ HM rfl hro hP hS hls hrl (rgs_c trivial (rgs_t hrs)))
  case putfield q =>
    have hl : len = 3 := by simpa [ab_lk, ab_il] using hlk
    subst hl
    obtain ⟨x, t, rfl, HM⟩ := ab_pI_of Hw
    obtain ⟨k, t, rfl, HM⟩ := ab_pR_of HM
    obtain ⟨c3, HM⟩ := ab_if_of HM
    obtain ⟨ck, HM⟩ := ab_if_of HM
    dsimp only at c3 ck HM
    have hk' : k < 38 := ab_k38 (by rw [c3]; decide)
    have hft : (ab_own i, q, x1, x2) ∈ ab_FT := by simpa [ab_c1] using hc1
    obtain ⟨w1, w2, w3, w4⟩ := ab_fwok _ hft
    dsimp only at w3 w4
    have ha := ab_wl_get (ad := ad) (cA := cA) (h := h) hk'
    rw [ab_ce_obj c3, ck] at ha
    have hts : ∀ w ∈ u_ws (ab_cs x1) (ab_T x1) (ab_N x1), w.before args s = true := fun w hw => hE.word (ab_layok x1 (List.mem_range.mpr w3) w hw).1 (ab_layok x1 (List.mem_range.mpr w3) w hw).2 hW0 args
    have hlink : (Cond.fieldLink (ab_cs (ab_own i)) q (ab_cs x1) (ab_T x1 x2).2.1 (ab_T x1 x2).2.2.1).before args s = true := hE.word w1 w2 hW0 args
    have rx : ab_rg x := rgs_h hrs
    cases en : ab_nf (ab_nd ab_lay k).2.2 x2 with
    | none => rw [en] at HM; exact HM.elim
    | some v =>
      cases v with
      | some r => rw [en] at HM; exact HM.elim
      | none =>
        rw [en] at HM
        dsimp only at HM
        have hlt := ab_nf_lt _ _ _ en
        have h40 := ab_nf_40 k (List.mem_range.mpr hk')
        have hpo := ab_put_ok k (List.mem_range.mpr hk') x2 (List.mem_range.mpr (by omega)) c3 en
        rw [ck] at hpo
        have hty0 : ∀ a, a < ab_N x1 → parseFieldDescriptor (ab_T x1 a).2.2.1 = some (ab_tyf x1 a) := fun a ha => ab_tyok x1 (List.mem_range.mpr w3) a (List.mem_range.mpr ha)
        have hnm : ∀ a, a < ab_N x1 → ∀ b, b < ab_N x1 → a ≠ b → (ab_T x1 a).2.1 ≠ (ab_T x1 b).2.1 := fun a ha b hb => ab_nmok x1 (List.mem_range.mpr w3) a (List.mem_range.mpr ha) b (List.mem_range.mpr hb)
        have key : ∀ HM' : ab_MM l s0 ad dC dI cA N xs i (n + 1) ls t (ab_up h k ((x2 : Nat) : Int) x) o h', ∀ (hn : narrow (ab_tyf x1 x2) (.int (Int32.ofInt x)) = .int (Int32.ofInt x)) (hf : fits (ab_tyf x1 x2) (.int (Int32.ofInt x)) = true),
            W p l e R s m args below meth c Hp locs cells slots (vx_MQ below (ab_Qc s0 ad dC dI cA N xs o h') (ab_XC s0 ad dC dI cA N xs o h') args s (cells + ab_k h h') (slots + 6 * ab_k h h') (fun q => s0.heap.size ≤ q)) (F0 m pc0 lsA (.int (Int32.ofInt x) :: .ref (ad k) :: t.map (ab_tv ad))) := by
          intro HM' hn hf
          refine va_put hx hb hts (fun w hw => hw) (ab_tyf x1) hty0 hnm hown hK hP hD hS k ha (ab_cls_get w3) x2 w4 hlink (fun _ z => z) hpo.1 (hty0 x2 w4) hn hf (by rw [ab_fs_len]; exact hlt) hd (fun H1 locs1 p1 d1 s1 => ?_)
          have e0 := ab_fs_set (ad := ad) _ (h k) 0 x2 x en
          rw [Nat.zero_add] at e0
          rw [e0, ab_wl_set hk' (fun i' => if i' = ((x2 : Nat) : Int) then x else h k i') (by rw [ab_ce_obj c3, ck]), ← ab_up_fun] at p1
          exact go _ _ _ _ _ _ HM' (ab_up_39 (by omega)) (hro.up hk' _ rx) p1 s1 hls hrl (rgs_t (rgs_t hrs))
        rcases hpo.2 with ⟨z1, z2⟩ | ⟨z1, z2⟩
        · rw [z2, if_neg (by decide)] at HM
          exact key HM (by rw [z1]; rfl) (by rw [z1]; rfl)
        · rw [z2, if_pos rfl] at HM
          exact key HM.2 (by rw [z1]; rcases HM.1 with rfl | rfl <;> rfl) (by rw [z1]; rcases HM.1 with rfl | rfl <;> rfl)
  all_goals exact Hw.elim
end So2
end
section
/-! Branches and returns: the relation is closed. -/
section So3
variable {l : Launch} {s0 : State} {a0 : Array Value} {ad : Nat → Nat} {dC : Nat → ClassId} {dI : Nat → Nat → Nat} {cA : Nat → ClassId} {N : Nat} {xs : Nat → Int32}
theorem ab_tgt {L : List ab_I} {k : Nat} {z : Int} (h : decide ((L[k]?).map (fun q => (q.1 : Int)) = some z) = true) : ∃ u, L[k]? = some u ∧ (u.1 : Int) = z := by
  rw [decide_eq_true_eq] at h
  cases e : L[k]? with
  | none => rw [e] at h; cases h
  | some u => rw [e] at h; exact ⟨u, rfl, Option.some.inj h⟩
theorem so_goto (i n : Nat) (t : ab_I) (off : Int) (ls st : List ab_V) (h : ab_S) (o : ab_O) (h' : ab_S) (ht : (ab_L i)[n]? = some t) (he : t.2.1 = .goto off) (HM : ab_MM l s0 ad dC dI cA N xs i t.2.2.2.1 ls st h o h') : ab_MM l s0 ad dC dI cA N xs i n ls st h o h' := by
  refine ⟨HM.1, ?_⟩
  intro p e R s m args below meth c Hp locs cells slots lsA pc hcx hcell hslot hpc hro hP hS hls hrl hrs
  obtain ⟨hd, hc1⟩ := (ab_gdi i).1 n t ht
  have hlk := ab_lki ht
  have hpc' : t.1 = pc := by
    rw [ht] at hpc
    exact Option.some.inj hpc
  have hcx' := hcx
  obtain ⟨hx, hb, hml, hrt, hlks, hex, hown, hW0, hold, hfr, hlo⟩ := hcx
  obtain ⟨pc0, ins, len, x1, x2⟩ := t
  dsimp only at hpc' hd hc1 hlk he HM
  subst hpc'
  subst he
  obtain ⟨u, hu, hup⟩ := ab_tgt (by simpa only [ab_c1] using hc1)
  have hl : len = 3 := by simpa [ab_lk, ab_il] using hlk
  subst hl
  exact lv_goto hx hb hd hup.symm (HM.2 p e R s m args below meth c Hp locs cells slots lsA u.1 hcx' hcell hslot (by rw [hu]; rfl) hro hP hS hls hrl hrs)
theorem so_if (i n : Nat) (t : ab_I) (cd : Jvm.ClassFile.Cond) (off : Int) (x : Int) (ls st : List ab_V) (h : ab_S) (o : ab_O) (h' : ab_S) (ht : (ab_L i)[n]? = some t) (he : t.2.1 = .ifCond cd off) (HA : ab_cmp cd x 0 → ab_MM l s0 ad dC dI cA N xs i t.2.2.2.1 ls st h o h') (HB : ¬ ab_cmp cd x 0 → ab_MM l s0 ad dC dI cA N xs i (n + 1) ls st h o h') : ab_MM l s0 ad dC dI cA N xs i n ls (vI x :: st) h o h' := by
  have hmono : h 39 0 ≤ h' 39 0 := by
    by_cases z : ab_cmp cd x 0
    · exact (HA z).1
    · exact (HB z).1
  refine ⟨hmono, ?_⟩
  intro p e R s m args below meth c Hp locs cells slots lsA pc hcx hcell hslot hpc hro hP hS hls hrl hrs
  obtain ⟨hd, hc1⟩ := (ab_gdi i).1 n t ht
  have hlk := ab_lki ht
  have hpc' : t.1 = pc := by
    rw [ht] at hpc
    exact Option.some.inj hpc
  obtain ⟨u2, hu2⟩ := ab_end_of (ab_ends _ (ab_mt_mem i)) ht (by rw [he]; exact fun z => nomatch z) (by rw [he]; exact fun z => nomatch z) (by rw [he]; exact fun z => nomatch z) (by rw [he]; exact fun _ z => nomatch z)
  have hup2 := (ab_gdi i).2 n t u2 ht hu2
  have hcx' := hcx
  obtain ⟨hx, hb, hml, hrt, hlks, hex, hown, hW0, hold, hfr, hlo⟩ := hcx
  obtain ⟨pc0, ins, len, x1, x2⟩ := t
  dsimp only at hpc' hd hc1 hlk he HA HB hup2
  subst hpc'
  subst he
  obtain ⟨u, hu, hup⟩ := ab_tgt (by simpa only [ab_c1] using hc1)
  have hl : len = 3 := by simpa [ab_lk, ab_il] using hlk
  subst hl
  have rx : ab_rg x := rgs_h hrs
  have ry : ab_rg 0 := ⟨by decide, by decide⟩
  have rs := rgs_t hrs
  have kA : ∀ z : ab_cmp cd x 0, W p l e R s m args below meth c Hp locs cells slots (vx_MQ below (ab_Qc s0 ad dC dI cA N xs o h') (ab_XC s0 ad dC dI cA N xs o h') args s (cells + ab_k h h') (slots + 6 * ab_k h h') (fun q => s0.heap.size ≤ q)) (F0 m u.1 lsA (st.map (ab_tv ad))) := fun z => (HA z).2 p e R s m args below meth c Hp locs cells slots lsA u.1 hcx' hcell hslot (by rw [hu]; rfl) hro hP hS hls hrl rs
  have kB : ∀ z : ¬ ab_cmp cd x 0, W p l e R s m args below meth c Hp locs cells slots (vx_MQ below (ab_Qc s0 ad dC dI cA N xs o h') (ab_XC s0 ad dC dI cA N xs o h') args s (cells + ab_k h h') (slots + 6 * ab_k h h') (fun q => s0.heap.size ≤ q)) (F0 m (pc0 + 3) lsA (st.map (ab_tv ad))) := fun z => (HB z).2 p e R s m args below meth c Hp locs cells slots lsA (pc0 + 3) hcx' hcell hslot (by rw [hu2]; exact congrArg some hup2) hro hP hS hls hrl rs
  cases cd
  case eq => exact lv_if_eq hx hb hd hup.symm (fun z => kA ((i3_eq rx ry).mp z)) (fun z => kB (fun w => z ((i3_eq rx ry).mpr w)))
  case ne => exact lv_if_ne hx hb hd hup.symm (fun z => kA (fun w => z ((i3_eq rx ry).mpr w))) (fun z => kB (fun w => w ((i3_eq rx ry).mp z)))
  case lt => exact lv_if_lt hx hb hd hup.symm (fun z => kA ((i3_lt rx ry).mp z)) (fun z => kB (fun w => z ((i3_lt rx ry).mpr w)))
  case ge => exact lv_if_ge hx hb hd hup.symm (fun z => kA ((i3_le ry rx).mp z)) (fun z => kB (fun w => z ((i3_le ry rx).mpr w)))
  case gt => exact lv_if_gt hx hb hd hup.symm (fun z => kA ((i3_lt ry rx).mp z)) (fun z => kB (fun w => z ((i3_lt ry rx).mpr w)))
  case le => exact lv_if_le hx hb hd hup.symm (fun z => kA ((i3_le rx ry).mp z)) (fun z => kB (fun w => z ((i3_le rx ry).mpr w)))
theorem so_icmp (i n : Nat) (t : ab_I) (cd : Jvm.ClassFile.Cond) (off : Int) (x y : Int) (ls st : List ab_V) (h : ab_S) (o : ab_O) (h' : ab_S) (ht : (ab_L i)[n]? = some t) (he : t.2.1 = .if_icmp cd off) (HA : ab_cmp cd x y → ab_MM l s0 ad dC dI cA N xs i t.2.2.2.1 ls st h o h') (HB : ¬ ab_cmp cd x y → ab_MM l s0 ad dC dI cA N xs i (n + 1) ls st h o h') : ab_MM l s0 ad dC dI cA N xs i n ls (vI y :: vI x :: st) h o h' := by
  have hmono : h 39 0 ≤ h' 39 0 := by
    by_cases z : ab_cmp cd x y
    · exact (HA z).1
    · exact (HB z).1
  refine ⟨hmono, ?_⟩
  intro p e R s m args below meth c Hp locs cells slots lsA pc hcx hcell hslot hpc hro hP hS hls hrl hrs
  obtain ⟨hd, hc1⟩ := (ab_gdi i).1 n t ht
  have hlk := ab_lki ht
  have hpc' : t.1 = pc := by
    rw [ht] at hpc
    exact Option.some.inj hpc
  obtain ⟨u2, hu2⟩ := ab_end_of (ab_ends _ (ab_mt_mem i)) ht (by rw [he]; exact fun z => nomatch z) (by rw [he]; exact fun z => nomatch z) (by rw [he]; exact fun z => nomatch z) (by rw [he]; exact fun _ z => nomatch z)
  have hup2 := (ab_gdi i).2 n t u2 ht hu2
  have hcx' := hcx
  obtain ⟨hx, hb, hml, hrt, hlks, hex, hown, hW0, hold, hfr, hlo⟩ := hcx
  obtain ⟨pc0, ins, len, x1, x2⟩ := t
  dsimp only at hpc' hd hc1 hlk he HA HB hup2
  subst hpc'
  subst he
  obtain ⟨u, hu, hup⟩ := ab_tgt (by simpa only [ab_c1] using hc1)
  have hl : len = 3 := by simpa [ab_lk, ab_il] using hlk
  subst hl
  have ry : ab_rg y := rgs_h hrs
  have rx : ab_rg x := rgs_h (rgs_t hrs)
  have rs := rgs_t (rgs_t hrs)
  have kA : ∀ z : ab_cmp cd x y, W p l e R s m args below meth c Hp locs cells slots (vx_MQ below (ab_Qc s0 ad dC dI cA N xs o h') (ab_XC s0 ad dC dI cA N xs o h') args s (cells + ab_k h h') (slots + 6 * ab_k h h') (fun q => s0.heap.size ≤ q)) (F0 m u.1 lsA (st.map (ab_tv ad))) := fun z => (HA z).2 p e R s m args below meth c Hp locs cells slots lsA u.1 hcx' hcell hslot (by rw [hu]; rfl) hro hP hS hls hrl rs
  have kB : ∀ z : ¬ ab_cmp cd x y, W p l e R s m args below meth c Hp locs cells slots (vx_MQ below (ab_Qc s0 ad dC dI cA N xs o h') (ab_XC s0 ad dC dI cA N xs o h') args s (cells + ab_k h h') (slots + 6 * ab_k h h') (fun q => s0.heap.size ≤ q)) (F0 m (pc0 + 3) lsA (st.map (ab_tv ad))) := fun z => (HB z).2 p e R s m args below meth c Hp locs cells slots lsA (pc0 + 3) hcx' hcell hslot (by rw [hu2]; exact congrArg some hup2) hro hP hS hls hrl rs
  cases cd
  case eq => exact lv_icmp_eq hx hb hd hup.symm (fun z => kA ((i3_eq rx ry).mp z)) (fun z => kB (fun w => z ((i3_eq rx ry).mpr w)))
  case ne => exact lv_icmp_ne hx hb hd hup.symm (fun z => kA (fun w => z ((i3_eq rx ry).mpr w))) (fun z => kB (fun w => w ((i3_eq rx ry).mp z)))
  case lt => exact lv_icmp_lt hx hb hd hup.symm (fun z => kA ((i3_lt rx ry).mp z)) (fun z => kB (fun w => z ((i3_lt rx ry).mpr w)))
  case ge => exact lv_icmp_ge hx hb hd hup.symm (fun z => kA ((i3_le ry rx).mp z)) (fun z => kB (fun w => z ((i3_le ry rx).mpr w)))
  case gt => exact lv_icmp_gt hx hb hd hup.symm (fun z => kA ((i3_lt ry rx).mp z)) (fun z => kB (fun w => z ((i3_lt ry rx).mpr w)))
  case le => exact lv_icmp_le hx hb hd hup.symm (fun z => kA ((i3_le rx ry).mp z)) (fun z => kB (fun w => z ((i3_le rx ry).mpr w)))
def ab_swk (L : List ab_I) (t : ab_I) : Bool := match t.2.1 with
  | .tableswitch _ lo hi offs => decide ((offs.toList.length : Int) = hi - lo + 1) && offs.toList.all (fun off => L.any (fun q => decide ((q.1 : Int) = (t.1 : Int) + off)))
  | _ => true
set_option maxRecDepth 100000 in
theorem ab_swks : ∀ m ∈ ab_Ms, (m.2.2.2.2.2.2.2.all (ab_swk m.2.2.2.2.2.2.2)) = true := by decide +kernel
theorem so_sw (i n : Nat) (t : ab_I) (d lo hi : Int) (offs : Array Int) (x : Int) (ls st : List ab_V) (h : ab_S) (o : ab_O) (h' : ab_S) (ht : (ab_L i)[n]? = some t) (he : t.2.1 = .tableswitch d lo hi offs) (HM : ab_MM l s0 ad dC dI cA N xs i (ab_swt (ab_L i) t lo hi offs x) ls st h o h') : ab_MM l s0 ad dC dI cA N xs i n ls (vI x :: st) h o h' := by
  refine ⟨HM.1, ?_⟩
  intro p e R s m args below meth c Hp locs cells slots lsA pc hcx hcell hslot hpc hro hP hS hls hrl hrs
  obtain ⟨hd, hc1⟩ := (ab_gdi i).1 n t ht
  have hlk := ab_lki ht
  have hpc' : t.1 = pc := by
    rw [ht] at hpc
    exact Option.some.inj hpc
  have hcx' := hcx
  have hsk : ab_swk (ab_L i) t = true := List.all_eq_true.mp (ab_swks _ (ab_mt_mem i)) t (List.mem_of_getElem? ht)
  have rx : ab_rg x := rgs_h hrs
  obtain ⟨hx, hb, hml, hrt, hlks, hex, hown, hW0, hold, hfr, hlo⟩ := hcx
  obtain ⟨pc0, ins, len, x1, x2⟩ := t
  dsimp only at hpc' hd hc1 hlk he HM hsk
  subst hpc'
  subst he
  by_cases z : x < lo ∨ hi < x
  · obtain ⟨u, hu, hup⟩ := ab_tgt (by simpa only [ab_c1] using hc1)
    unfold ab_swt at HM
    rw [if_pos z] at HM
    exact lv_tableOut hx hb hd (by rw [i3_toInt rx]; exact z) hup.symm (HM.2 p e R s m args below meth c Hp locs cells slots lsA u.1 hcx' hcell hslot (by rw [hu]; rfl) hro hP hS hls hrl (rgs_t hrs))
  · unfold ab_swt at HM
    rw [if_neg z] at HM
    simp only [ab_swk, Bool.and_eq_true, decide_eq_true_eq] at hsk
    have hlt : (x - lo).toNat < offs.toList.length := by omega
    have hoff : offs.toList.getD (x - lo).toNat 0 = offs.toList[(x - lo).toNat] := by
      rw [List.getD_eq_getElem?_getD, List.getElem?_eq_getElem hlt]
      rfl
    have ha := List.all_eq_true.mp hsk.2 _ (List.getElem_mem hlt)
    obtain ⟨q, hq, hqd⟩ := List.any_eq_true.mp ha
    have hfl : (ab_L i).findIdx (fun q => decide ((q.1 : Int) = (pc0 : Int) + offs.toList.getD (x - lo).toNat 0)) < (ab_L i).length := List.findIdx_lt_length_of_exists ⟨q, hq, by rw [hoff]; exact hqd⟩
    have hfg := List.findIdx_getElem (w := hfl)
    rw [decide_eq_true_eq] at hfg
    refine lv_tableIn (off := offs.toList.getD (x - lo).toNat 0) hx hb hd (by rw [i3_toInt rx]; omega) (by rw [i3_toInt rx]; omega) ?_ hfg.symm (HM.2 p e R s m args below meth c Hp locs cells slots lsA _ hcx' hcell hslot (by rw [List.getElem?_eq_getElem hfl]; rfl) hro hP hS hls hrl (rgs_t hrs))
    rw [i3_toInt rx, hoff, ← Array.getElem?_toList, List.getElem?_eq_getElem hlt]
theorem ab_k0 (h : ab_S) : ab_k h h = 0 := by
  unfold ab_k
  omega
theorem so_iret (i n : Nat) (t : ab_I) (x : Int) (ls : List ab_V) (h : ab_S) (ht : (ab_L i)[n]? = some t) (he : t.2.1 = .ireturn) (hrt0 : ab_rt i = some .int ∨ (ab_rt i = some .boolean ∧ (x = 0 ∨ x = 1))) : ab_MM l s0 ad dC dI cA N xs i n ls [vI x] h (oI x) h := by
  refine ⟨Int.le_refl _, ?_⟩
  intro p e R s m args below meth c Hp locs cells slots lsA pc hcx hcell hslot hpc hro hP hS hls hrl hrs
  obtain ⟨hd, hc1⟩ := (ab_gdi i).1 n t ht
  have hlk := ab_lki ht
  have hpc' : t.1 = pc := by
    rw [ht] at hpc
    exact Option.some.inj hpc
  obtain ⟨hx, hb, hml, hrt, hlks, hex, hown, hW0, hold, hfr, hlo⟩ := hcx
  obtain ⟨pc0, ins, len, x1, x2⟩ := t
  dsimp only at hpc' hd hc1 hlk he
  subst hpc'
  subst he
  have hl : len = 1 := by simpa [ab_lk, ab_il] using hlk
  subst hl
  rw [ab_k0, Nat.mul_zero, Nat.add_zero, Nat.add_zero]
  have hq : ∀ t : State, t.heap = Hp → s.WarmedH t.vm → ab_Qc s0 ad dC dI cA N xs (oI x) h args s (.returned (some (.int (Int32.ofInt x)))) t := fun t ht hW => ⟨some (vI x), rfl, rfl, by rw [ht]; exact hP, hro, rgs_c (rgs_h hrs) (fun _ z => nomatch z), rfl, hS.F ht⟩
  rcases hrt0 with hr | ⟨hr, h01⟩
  · exact vx_ret (W.iret hx hb (hrt.trans hr) hq hS.2.2 hd hlks)
  · exact vx_ret (W.zret hx hb (hrt.trans hr) (by rcases h01 with rfl | rfl <;> rfl) hq hS.2.2 hd hlks)
theorem so_ret (i n : Nat) (t : ab_I) (ls : List ab_V) (h : ab_S) (ht : (ab_L i)[n]? = some t) (he : t.2.1 = .return_) (hrt0 : ab_rt i = none) : ab_MM l s0 ad dC dI cA N xs i n ls [] h oV h := by
  refine ⟨Int.le_refl _, ?_⟩
  intro p e R s m args below meth c Hp locs cells slots lsA pc hcx hcell hslot hpc hro hP hS hls hrl hrs
  obtain ⟨hd, hc1⟩ := (ab_gdi i).1 n t ht
  have hlk := ab_lki ht
  have hpc' : t.1 = pc := by
    rw [ht] at hpc
    exact Option.some.inj hpc
  obtain ⟨hx, hb, hml, hrt, hlks, hex, hown, hW0, hold, hfr, hlo⟩ := hcx
  obtain ⟨pc0, ins, len, x1, x2⟩ := t
  dsimp only at hpc' hd hc1 hlk he
  subst hpc'
  subst he
  have hl : len = 1 := by simpa [ab_lk, ab_il] using hlk
  subst hl
  rw [ab_k0, Nat.mul_zero, Nat.add_zero, Nat.add_zero]
  exact vx_ret (W.vret hx hb (hrt.trans hrt0) (fun t ht hW => ⟨none, rfl, rfl, by rw [ht]; exact hP, hro, (fun _ z => nomatch z), rfl, hS.F ht⟩) hS.2.2 hd hlks)
end So3
end
section
/-! A method of the pure machine, from its entry, as a contract of the machine. -/
section Met9
variable {l : Launch} {s0 : State} {a0 : Array Value} {ad : Nat → Nat} {dC : Nat → ClassId} {dI : Nat → Nat → Nat} {cA : Nat → ClassId} {N : Nat} {xs : Nat → Int32}
theorem nl_c {v : ab_V} {t : List ab_V} (h : ab_nl (v :: t) = true) : (∀ x, v ≠ vJ x) ∧ ab_nl t = true := by
  unfold ab_nl at h ⊢
  rw [List.all_cons, Bool.and_eq_true] at h
  refine ⟨fun x e => ?_, h.2⟩
  subst e
  exact absurd h.1 Bool.false_ne_true
theorem sl_len : ∀ (as : List ab_V), ab_nl as = true → (lg_sl (as.map (ab_tv ad))).length = as.length
  | [], _ => rfl
  | v :: t, h => by
    obtain ⟨h1, h2⟩ := nl_c h
    have := sl_len t h2
    unfold lg_sl at this ⊢
    rw [List.map_cons, List.flatMap_cons, List.length_append, this, if_neg (by rw [tv_cat h1]; decide)]
    simp [Nat.add_comm]
theorem arg_mem : ∀ (as : List ab_V) (k0 k : Nat) (v : ab_V), ab_nl as = true → as[k]? = some v → (k0 + k, ab_tv ad v) ∈ lv_args k0 (as.map (ab_tv ad))
  | [], _, _, _, _, h => by simp at h
  | w :: t, k0, 0, v, hn, h => by
    cases Option.some.inj h
    exact List.mem_cons_self
  | w :: t, k0, k + 1, v, hn, h => by
    obtain ⟨h1, h2⟩ := nl_c hn
    have := arg_mem t (k0 + 1) k v h2 h
    rw [List.map_cons, lv_args, if_neg (by rw [tv_cat h1]; decide), show k0 + (k + 1) = k0 + 1 + k by omega]
    exact List.mem_cons_of_mem _ this
theorem ent_lsr {j : Nat} {as : List ab_V} (hn : ab_nl as = true) (hl : as.length ≤ ab_ml j) {A : Array Slot} (hh : lv_has A (ab_ml j) (lv_args 0 (as.map (ab_tv ad)))) : ab_lsr ad (ab_ml j) (ab_ent j as) A := by
  refine ⟨hh.1, hh.2.1, ?_, fun k v hk hv => ?_⟩
  · unfold ab_ent
    rw [List.length_append, List.length_replicate]
    omega
  · unfold ab_ent at hk
    by_cases hka : k < as.length
    · rw [List.getElem?_append_left hka] at hk
      have := arg_mem (ad := ad) as 0 k v hn hk
      rw [Nat.zero_add] at this
      exact hh.2.2 _ this
    · rw [List.getElem?_append_right (by omega)] at hk
      have := List.mem_of_getElem? hk
      rw [List.mem_replicate] at this
      exact absurd this.2 (hv 0)
theorem ent_rgs {j : Nat} {as : List ab_V} (h : ab_rgs as) : ab_rgs (ab_ent j as) := by
  intro v hv
  unfold ab_ent at hv
  rcases List.mem_append.mp hv with h1 | h1
  · exact h v h1
  · rw [(List.mem_replicate.mp h1).2]
    exact (show ab_rg 0 from ⟨by decide, by decide⟩)
set_option maxRecDepth 100000 in
theorem ab_pc0s : ∀ m ∈ ab_Ms, (m.2.2.2.2.2.2.2[0]?).map (fun t => t.1) = some 0 := by decide +kernel
def ab_Pc (s0 : State) (ad : Nat → Nat) (dC : Nat → ClassId) (dI : Nat → Nat → Nat) (cA : Nat → ClassId) (as : List ab_V) (h : ab_S) : Array Value → State → Prop := fun a U =>
  a = (as.map (ab_tv ad)).toArray ∧ s0.WarmedH U.vm ∧ (s0.heap.size ≤ U.heap.size ∧ ∀ q : Nat, q < s0.heap.size → U.heap[q]? = s0.heap[q]?) ∧ va_P (dC, dI) ab_cls (ab_wl ad cA h) U.heap
theorem ab_Pc_blind {as : List ab_V} {h : ab_S} : FrameBlind (ab_Pc s0 ad dC dI cA as h) := fun _ _ _ _ q => q
abbrev ab_rm (j : Nat) (h h1 : ab_S) : Room := { frames := ab_fr j, cells := ab_k h h1, slots := 6 * ab_k h h1, locals := ab_lo j }
theorem ab_body (j : Nat) (as : List ab_V) (h : ab_S) (o : ab_O) (h1 : ab_S) (HM : ab_MM l s0 ad dC dI cA N xs j 0 (ab_ent j as) [] h o h1) (hn : ab_nl as = true) (hl : as.length ≤ ab_ml j) (hr : ab_rgs as) (hro : ab_ro N xs h)
    (p : Program) (e : Env) (s : State) (m : MethodId) (args : Array Value) (below : List Frame) (meth : Method) (c : Code) (hcx : ab_cx s0 j p (ab_rm j h h1) s m meth c) (hP : ab_Pc s0 ad dC dI cA as h args s) :
    W p l e (ab_rm j h h1) s m args below meth c s.heap [] 0 0 (vx_MQ below (ab_Qc s0 ad dC dI cA N xs o h1) (ab_XC s0 ad dC dI cA N xs o h1) args s (ab_k h h1) (6 * ab_k h h1) (fun q => s0.heap.size ≤ q)) (entryFrame m args (ab_ml j)) := by
  obtain ⟨rfl, hW0, hold, hPw⟩ := hP
  have hle := lv_entry (as.map (ab_tv ad)) (n := ab_ml j) (by rw [sl_len as hn]; exact hl)
  rw [lg_entry_eq]
  have := HM.2 p e (ab_rm j h h1) s m (as.map (ab_tv ad)).toArray below meth c s.heap [] 0 0 _ 0 hcx (Nat.le_of_eq (Nat.zero_add _)) (Nat.le_of_eq (Nat.zero_add _)) (ab_pc0s _ (ab_mt_mem j)) hro hPw va_S.rf (ent_lsr hn hl hle) (ent_rgs hr) (fun _ z => nomatch z)
  rw [Nat.zero_add, Nat.zero_add] at this
  exact this
theorem ab_yni (j : Nat) : plainName (ab_yn j).cls = true ∧ (ab_yn j).cls ≠ "java/lang/invoke/MethodHandle" ∧ (ab_yn j).cls ≠ "java/lang/invoke/VarHandle" ∧ (ab_yn j).cls = ab_cs (ab_own j) ∧ ab_own j < 9 := ab_ynok _ (ab_mt_mem j)
theorem ab_kw_c {j : Nat} (hj : ¬ (127 ≤ j ∧ j ≤ 135)) : ab_kw j = .code (ab_yn j) (ab_bc j) (ab_ml j) (ab_rt j) := if_neg hj
theorem ab_kw_w {j : Nat} (hj : 127 ≤ j ∧ j ≤ 135) : ab_kw j = .codeWith (ab_yn j) (ab_bc j) (ab_ml j) (ab_rt j) (ab_hh j) := if_pos hj
theorem ab_met (j : Nat) (as : List ab_V) (h : ab_S) (o : ab_O) (h1 : ab_S) (HM : ab_MM l s0 ad dC dI cA N xs j 0 (ab_ent j as) [] h o h1) (hn : ab_nl as = true) (hl : as.length ≤ ab_ml j) (hr : ab_rgs as) (hro : ab_ro N xs h) :
    vx_Met l (ab_yn j) [ab_kw j] (ab_rm j h h1) (ab_Pc s0 ad dC dI cA as h) (ab_Qc s0 ad dC dI cA N xs o h1) (ab_XC s0 ad dC dI cA N xs o h1) (ab_k h h1) (6 * ab_k h h1) (fun q => s0.heap.size ≤ q) := by
  by_cases hj : 127 ≤ j ∧ j ≤ 135
  · rw [ab_kw_w hj]
    refine vx_ofWH (ab_yni j).1 rfl ?_
    intro p e s m args below meth c s₁ B hml hP
    refine ab_body j as h o h1 HM hn hl hr hro p e s m args below meth c ⟨B.exec, B.bytes, hml, B.returns, B.notSynchronized, ?_, ?_, hP.2.1, hP.2.2.1, Nat.le_refl _, Nat.le_refl _⟩ hP
    · exact vx_table (x := ab_yn j) B (atoms_spec (ws := [Cond.codeWith (ab_yn j) (ab_bc j) (ab_ml j) (ab_rt j) (ab_hh j)]) B.pre _ List.mem_cons_self)
    · rw [← (ab_yni j).2.2.2.1]
      exact findClass_of_methodNamed B.named
  · rw [ab_kw_c hj]
    refine vx_ofW (ab_yni j).1 rfl ?_
    intro p e s m args below meth c s₁ B hml hex hP
    refine ab_body j as h o h1 HM hn hl hr hro p e s m args below meth c ⟨B.exec, B.bytes, hml, B.returns, B.notSynchronized, ?_, ?_, hP.2.1, hP.2.2.1, Nat.le_refl _, Nat.le_refl _⟩ hP
    · unfold ab_hh
      rw [if_neg hj]
      cases e9 : c.exceptionTable.toList with
      | nil => rfl
      | cons x t => exact (hex x (by rw [e9]; exact List.mem_cons_self)).elim
    · rw [← (ab_yni j).2.2.2.1]
      exact findClass_of_methodNamed B.named
end Met9
end
section
/-! Calls: the relation is closed. -/
section Call9
variable {l : Launch} {s0 : State} {a0 : Array Value} {ad : Nat → Nat} {dC : Nat → ClassId} {dI : Nat → Nat → Nat} {cA : Nat → ClassId} {N : Nat} {xs : Nat → Int32}
variable {p : Program} {e : Env} {R : Room} {s : State} {m : MethodId} {args : Array Value} {below : List Frame} {meth : Method} {c : Code} {T : State} {H : Heap} {locs : List Loc} {cells slots : Nat}
/-- a static call of a private method of a nest mate that returns or throws -/
theorem ab_callSN (X : Stand p l e R s m args below meth c T locs cells slots) (hexec : p.tables.exec = Jvm.exec) {own host : String} {index : Nat} {y : MethodName} {bytes : ByteArray} {maxL : Nat} {ret : Option FieldType}
    (hown : s.vm.findClass own = some m.cls) (hlink : (Cond.methodLinkNest own index y host).before args s = true) (hstat : (Cond.static y).before args s = true) (hinit : (Cond.initialized y.cls).before args s = true)
    (hcode : (Cond.code y bytes maxL ret).before args s = true) (hy : y.cls ≠ "java/lang/invoke/MethodHandle" ∧ y.cls ≠ "java/lang/invoke/VarHandle")
    {W9 : Nat} {Pre : Pt → Array Value → Prop} {Post : Pt → Array Value → Option Value → Pt → Prop} {PostX : Pt → Array Value → Addr → Pt → Prop} (hK : vx_Back l R p e below s args y 3 W9 Pre Post PostX)
    {g : JFrame} (hg : g.method = m) (hsize : g.locals.size = c.maxLocals) {argsL rest : List Value} (hlen : ∀ sig, parseMethodDescriptor y.desc = some sig → argsL.length = sig.parameters.length)
    (hstack : g.stack = argsL.reverse ++ rest) (hW : 2 * g.monitorRoom + (rest.map fun v => v.category).sum ≤ W9) (hdg : decode c.code g.pc = .ok (.invokestatic index, 3))
    (hpre : ∀ vm₁, s.WarmedH vm₁ → Pre ⟨T.setVm vm₁, locs, cells, slots⟩ argsL.toArray) :
    (∃ (v : Option Value) (vm₁ : Vm) (B : Pt), s.WarmedH vm₁ ∧ Stand p l e R s m args below meth c B.U B.locs B.cells B.slots ∧ Post ⟨T.setVm vm₁, locs, cells, slots⟩ argsL.toArray v B ∧
      ∀ target, Steps p.tables e below (B.U.setTop { g with pc := g.pc + 3, stack := v.toList ++ rest }) target → Steps p.tables e below (T.setTop g) target) ∨
    (∃ (q : Addr) (vm₁ : Vm) (B : Pt), s.WarmedH vm₁ ∧ Stand p l e R s m args below meth c B.U B.locs B.cells B.slots ∧ PostX ⟨T.setVm vm₁, locs, cells, slots⟩ argsL.toArray q B ∧
      Steps p.tables e below (T.setTop g) ((B.U.setTop { g with stack := rest }).pushFrame (.throwing q))) := by
  obtain ⟨mk, hnamed⟩ := Cond.code_named hcode
  obtain ⟨methM, cM, hmethM, -, -, -, -, -, -, hsigM⟩ := Cond.code_spec hnamed hcode
  have hstatic : methM.isStatic = true := Cond.static_spec hnamed hmethM hstat
  obtain ⟨kP, hkP, -⟩ := className_of_methodNamed hnamed
  have hinitP : kP.init = .initialized := Cond.initialized_spec (findClass_of_methodNamed hnamed) hkP hinit
  obtain ⟨vm₁, X₁, hstep₁⟩ := X.invokestaticNest hexec hown hlink hnamed hmethM hstatic hkP hinitP hy (g := g) hg (argsL := argsL) (rest := rest) (hlen _ hsigM) hstack hdg
  rcases hK m meth c ⟨T.setVm vm₁, locs, cells, slots⟩ { g with stack := rest } (.invokestatic index) mk argsL.toArray X₁ hg hsize hdg hW (X₁.named hnamed) (hpre vm₁ X₁.warmed) with ⟨v, B, X', hpost, hsteps⟩ | ⟨q, B, X', hpost, hsteps⟩
  · exact Or.inl ⟨v, vm₁, B, X₁.warmed, X', hpost, fun target h => hstep₁ _ fun acts => by rw [doInvoke_state]; exact hsteps.trans h⟩
  · exact Or.inr ⟨q, vm₁, B, X₁.warmed, X', hpost, hstep₁ _ fun acts => by rw [doInvoke_state]; exact hsteps⟩
theorem ab_runSN {y : MethodName} {bytes cc : ByteArray} {maxL nL mc ms n index : Nat} {ret : Option FieldType} {ws : List Cond} {rm : Room} {Pc : Array Value → State → Prop} {Qc : Array Value → State → Outcome → State → Prop} {XC : String → State → State → Prop} {free : Addr → Prop} {Ts : List Cond} {own host : String} {As rest : List Value} {g : JFrame}
    (S : CallFix p m c cc nL s args Ts own) (hM : vx_Met l y ws rm Pc Qc XC mc ms free) (cw : va_CN R s args own index y host bytes maxL ret ws rm mc ms n ∧ (Cond.static y).before args s = true) (hp : PreS s H Pc As)
    (hg : g.method = m) (hn : As.length = n) (hsize : g.locals.size = nL) (hstack : g.stack = As.reverse ++ rest) (hW : 2 * g.monitorRoom + (rest.map fun v => v.category).sum ≤ 8) (hdg : decode cc g.pc = .ok (.invokestatic index, 3)) (hf : cells + mc ≤ R.cells ∧ slots + ms ≤ R.slots) :
    vx_Run p l e R s m args below meth c H locs cells slots mc ms g rest (Qc As.toArray) XC free := by
  obtain ⟨⟨⟨hrc, hrs, hfr, hlo, hws, hcw⟩, hcode, hini, hy, hlen, hl⟩, hstt⟩ := cw
  have hK : vx_Back l R p e below s args y 3 8 (PreOf R mc ms Pc) (PostOf Qc mc ms free) (vx_Post XC mc ms free) := vx_back (bytes := bytes) (maxL := maxL) (ret := ret) hM hp.1 hrc hrs hfr hlo hws hcw (fun a' U hW => word_at hW (Or.inl (by first | rfl | simp [Cond.onTables, Cond.keeps, Cond.steady])) hini)
  obtain ⟨hx, hb, hml, ho, -⟩ := S
  intro T hT X
  rcases ab_callSN X hx (bytes := bytes) (maxL := maxL) (ret := ret) ho hl hstt hini hcode hy hK hg (hsize.trans hml.symm) (argsL := As) (rest := rest) (fun sig h => hn.trans (hlen sig h)) hstack hW (by rw [hb]; exact hdg)
    (fun vm₁ hW₁ => ⟨hf.1, hf.2, hp.2 (T.setVm vm₁) hT hW₁⟩) with ⟨v, vm₁, ⟨U', l2, c2, s2⟩, hW₁, X', ⟨g', mk, t, L, e1, e2, hq, h1, hL, h2, h3⟩, st⟩ | ⟨q, vm₁, ⟨U', l2, c2, s2⟩, hW₁, X', ⟨g', mk, t, L, E, ce, e1, e2, hq, hce, hcv, hcl, h1, hL, h2, h3⟩, st⟩
  · dsimp only [Pt.U, Pt.locs, Pt.cells, Pt.slots] at X' e1 e2 h1 h2 h3 st
    subst h1; subst h2; subst h3
    exact Or.inl ⟨v, (T.setVm vm₁).calling g' mk As.toArray, t, U', L, hT, X', hL, e1, e2, hq, st⟩
  · dsimp only [Pt.U, Pt.locs, Pt.cells, Pt.slots] at X' e1 e2 h1 h2 h3 st hcl
    subst h1; subst h2; subst h3
    exact Or.inr ⟨q, (T.setVm vm₁).calling g' mk As.toArray, t, U', L, E, ce, hT, X', hL, e1, e2, hq, hce, hcv, vx_cls hW₁ hcl, st⟩
theorem nl_sum : ∀ (r : List ab_V), ab_nl r = true → ((r.map (ab_tv ad)).map fun v => v.category).sum = r.length
  | [], _ => rfl
  | v :: t, h => by
    obtain ⟨h1, h2⟩ := nl_c h
    rw [List.map_cons, List.map_cons, List.sum_cons, nl_sum t h2, tv_cat h1, List.length_cons]
    omega
set_option maxRecDepth 100000 in
theorem ab_mlok : ∀ q ∈ ab_CT, (q.2.1 = 0 → ab_pn q.2.2.2 + 1 ≤ ab_ml q.2.2.2) ∧ ab_pn q.2.2.2 ≤ ab_ml q.2.2.2 := by decide +kernel
theorem ab_kwg (j : Nat) : goodWord (ab_kw j) = true := by
  unfold ab_kw
  split <;> rfl
/-- a call of the pure machine as a run of the machine -/
theorem ab_run (hE : ab_E l s0 a0 ad dC dI cA N xs) {i n j : Nat} {as rest : List ab_V} {h h1 : ab_S} {o : ab_O} (hc : ab_cal i n j as rest) (HM : ab_MM l s0 ad dC dI cA N xs j 0 (ab_ent j as) [] h o h1)
    {lsA : Array Slot} {pc : Nat} (hcx : ab_cx s0 i p R s m meth c) (hpc : (ab_L i)[n]?.map (fun t => t.1) = some pc) (hro : ab_ro N xs h) (hP : va_P (dC, dI) ab_cls (ab_wl ad cA h) H) (hS : va_S (fun q => s0.heap.size ≤ q) s.heap H locs)
    (hsz : lsA.size = ab_ml i) (hrs : ab_rgs (as.reverse ++ rest)) (hcell : cells + ab_k h h1 ≤ R.cells) (hslot : slots + 6 * ab_k h h1 ≤ R.slots) :
    vx_Run p l e R s m args below meth c H locs cells slots (ab_k h h1) (6 * ab_k h h1) (F0 m pc lsA ((as.reverse ++ rest).map (ab_tv ad))) (rest.map (ab_tv ad)) (ab_Qc s0 ad dC dI cA N xs o h1 (as.map (ab_tv ad)).toArray) (ab_XC s0 ad dC dI cA N xs o h1) (fun q => s0.heap.size ≤ q) := by
  obtain ⟨t, ht, hj, hj138, hkind, hna, hnr, hr8, hfr9, hlo9⟩ := hc
  obtain ⟨hx, hb, hml, hrt, hlks, hex, hown, hW0, hold, hfr, hlo⟩ := hcx
  obtain ⟨hd, hc1⟩ := (ab_gdi i).1 n t ht
  have hlk := ab_lki ht
  have hpc' : t.1 = pc := by
    rw [ht] at hpc
    exact Option.some.inj hpc
  have hras : ab_rgs as := fun v hv => hrs v (List.mem_append_left _ (List.mem_reverse.mpr hv))
  have hold2 : s0.heap.size ≤ H.size ∧ ∀ q : Nat, q < s0.heap.size → H[q]? = s0.heap[q]? := ⟨Nat.le_trans hold.1 hS.1, fun q hq => by
    rw [hS.2.1 q (Nat.lt_of_lt_of_le hq hold.1) (Nat.not_le.mpr hq)]
    exact hold.2 q hq⟩
  have hPc : ∀ U : State, U.heap = H → s.WarmedH U.vm → ab_Pc s0 ad dC dI cA as h (as.map (ab_tv ad)).toArray U := fun U hU hW => ⟨rfl, State.WarmedH.trans hW0 hW, by rw [hU]; exact hold2, by rw [hU]; exact hP⟩
  have hini := hE.word (ab_iniok (ab_own j) (List.mem_range.mpr (ab_yni j).2.2.2.2)) rfl hW0 args
  rw [← (ab_yni j).2.2.2.1] at hini
  have hy : (ab_yn j).cls ≠ "java/lang/invoke/MethodHandle" ∧ (ab_yn j).cls ≠ "java/lang/invoke/VarHandle" := ⟨(ab_yni j).2.1, (ab_yni j).2.2.1⟩
  have hsig : ∀ sig, parseMethodDescriptor (ab_yn j).desc = some sig → ab_pn j = sig.parameters.length := by
    intro sig hs
    have h2 := ab_pnok j (List.mem_range.mpr hj138)
    rw [hs] at h2
    exact (Option.some.inj h2).symm
  have hsum : 2 * (F0 m pc lsA ((as.reverse ++ rest).map (ab_tv ad))).monitorRoom + ((rest.map (ab_tv ad)).map fun v => v.category).sum ≤ 8 := lv_room (by rw [nl_sum rest hnr]; exact hr8)
  have hT : CallFix p m c (ab_bc i) (ab_ml i) s args [] (ab_cs (ab_own i)) := ⟨hx, hb, hml, hown, fun _ z => nomatch z⟩
  obtain ⟨pc0, ins, len, x1, x2⟩ := t
  dsimp only at hpc' hd hc1 hlk hj hkind
  subst hpc'
  subst hj
  rcases hkind with ⟨k, rfl, hrc, hla⟩ | ⟨k, rfl, hla⟩
  · have hl : len = 3 := by simpa [ab_lk, ab_il] using hlk
    subst hl
    have hct : (ab_own i, 0, k, x1) ∈ ab_CT := by simpa [ab_c1] using hc1
    obtain ⟨hw, -, hj136, -⟩ := ab_cwok _ hct
    have hmlx := (ab_mlok _ hct).1 rfl
    have hkw : ab_kw x1 ∈ lw_tbl := ab_kwok x1 hj138 hj136
    obtain ⟨v, as0, rfl⟩ : ∃ v t, as = v :: t := by
      cases as with
      | nil => cases hla
      | cons v t => exact ⟨v, t, rfl⟩
    rcases v with x | kb | x
    · exact absurd hrc Bool.false_ne_true
    · unfold ab_rc at hrc
      simp only [Bool.and_eq_true, beq_iff_eq] at hrc
      have hk' : kb < 38 := ab_k38 (by rw [hrc.1]; decide)
      have ha := ab_wl_get (ad := ad) (cA := cA) (h := h) hk'
      rw [ab_ce_obj hrc.1] at ha
      obtain ⟨r, hr1, cell, q1, q2, q3, q4⟩ := hP kb _ ha
      dsimp only at hr1 q1 q2
      have hK : va_K (dC, dI) ab_cls [(cA 0, .int), (cA 1, .boolean), (cA 2, .long)] s := va_K.moved hW0.alike hE.2.2.2.1
      have h7 : (ab_nd ab_lay kb).2.1 < 7 := by
        have := (List.getElem?_eq_some_iff.mp hr1).1
        simpa [ab_cls] using this
      have hfc := (hK.1 _ _ (ab_cls_get h7)).2.1
      have hnh : ¬ (127 ≤ x1 ∧ x1 ≤ 135) := by
        intro z
        have z1 : ab_own x1 = 7 := by
          have : ∀ j ∈ List.range 9, ab_own (127 + j) = 7 := by decide +kernel
          have := this (x1 - 127) (List.mem_range.mpr (by omega))
          rwa [show 127 + (x1 - 127) = x1 by omega] at this
        omega
      have hkc := ab_kw_c hnh
      have hMt := ab_met x1 (vR kb :: as0) h o h1 HM hna (by rw [hla]; exact hmlx) hras hro
      rw [hkc] at hMt hkw
      have hcd : (Cond.code (ab_yn x1) (ab_bc x1) (ab_ml x1) (ab_rt x1)).before args s = true := hE.word hkw rfl hW0 args
      refine vx_runV (C := (ab_yn x1).cls) (As := as0.map (ab_tv ad)) (b := ad kb) (rest := rest.map (ab_tv ad)) hT hMt ⟨⟨rfl, rfl, by show ab_fr x1 + 1 ≤ _; omega, by show 8 + (ab_ml x1 + 11) + ab_lo x1 ≤ _; omega, fun w hw a' U hW => ?_, List.mem_cons_self, hcd, hini, hy, hsig, hE.word (hw _ (by exact List.mem_cons_self)) rfl hW0 args⟩, hE.word (hw _ (by exact List.mem_cons_of_mem _ List.mem_cons_self)) rfl hW0 args, hE.word (hw _ (by exact List.mem_cons_of_mem _ (List.mem_cons_of_mem _ List.mem_cons_self))) rfl hW0 args⟩
        ⟨ab_Pc_blind, ⟨cell, q1, by rw [q3]; rfl, ?_⟩, hPc⟩ rfl (by rw [List.length_map]; simpa using hla) hsz ?_ hsum hd ⟨hcell, hslot⟩
      · rw [List.mem_singleton.mp hw]
        exact hE.word hkw rfl (State.WarmedH.trans hW0 hW) a'
      · rw [q2, (ab_yni x1).2.2.2.1, ← hrc.2]
        exact hfc
      · show List.map _ _ = _
        simp [ab_tv]
    · exact absurd hrc Bool.false_ne_true
  · have hl : len = 3 := by simpa [ab_lk, ab_il] using hlk
    subst hl
    have hne : x1 ≠ 9999 := by omega
    have hct : (ab_own i, 1, k, x1) ∈ ab_CT ∨ (ab_own i, 2, k, x1) ∈ ab_CT := by simpa [ab_c1, hne] using hc1
    have hstk : (F0 m pc0 lsA ((as.reverse ++ rest).map (ab_tv ad))).stack = (as.map (ab_tv ad)).reverse ++ rest.map (ab_tv ad) := by
      show List.map _ _ = _
      rw [List.map_append, List.map_reverse]
    rcases hct with hct | hct
    · obtain ⟨hw, -, hj136, -⟩ := ab_cwok _ hct
      have hmlx := (ab_mlok _ hct).2
      have hkw : ab_kw x1 ∈ lw_tbl := ab_kwok x1 hj138 hj136
      have hMt := ab_met x1 as h o h1 HM hna (by rw [hla]; exact hmlx) hras hro
      have hln := hE.word (hw _ (by exact List.mem_cons_self)) rfl hW0 args
      have hst := hE.word (hw _ (by exact List.mem_cons_of_mem _ List.mem_cons_self)) rfl hW0 args
      by_cases hh : 127 ≤ x1 ∧ x1 ≤ 135
      · rw [ab_kw_w hh] at hMt hkw
        refine vx_runSX (As := as.map (ab_tv ad)) (rest := rest.map (ab_tv ad)) hT hMt ⟨⟨rfl, rfl, by show ab_fr x1 + 1 ≤ _; omega, by show 8 + (ab_ml x1 + 11) + ab_lo x1 ≤ _; omega, fun w hw a' U hW => ?_, List.mem_cons_self⟩, hE.word hkw rfl hW0 args, hini, hy, hsig, hln, hst⟩ ⟨ab_Pc_blind, hPc⟩ rfl (by rw [List.length_map]; exact hla) hsz hstk hsum hd ⟨hcell, hslot⟩
        rw [List.mem_singleton.mp hw]
        exact hE.word hkw rfl (State.WarmedH.trans hW0 hW) a'
      · rw [ab_kw_c hh] at hMt hkw
        refine vx_runS (As := as.map (ab_tv ad)) (rest := rest.map (ab_tv ad)) hT hMt ⟨⟨rfl, rfl, by show ab_fr x1 + 1 ≤ _; omega, by show 8 + (ab_ml x1 + 11) + ab_lo x1 ≤ _; omega, fun w hw a' U hW => ?_, List.mem_cons_self, hE.word hkw rfl hW0 args, hini, hy, hsig, hln⟩, hst⟩ ⟨ab_Pc_blind, hPc⟩ rfl (by rw [List.length_map]; exact hla) hsz hstk hsum hd ⟨hcell, hslot⟩
        rw [List.mem_singleton.mp hw]
        exact hE.word hkw rfl (State.WarmedH.trans hW0 hW) a'
    · obtain ⟨hw, -, hj136, -⟩ := ab_cwok _ hct
      have hmlx := (ab_mlok _ hct).2
      have hkw : ab_kw x1 ∈ lw_tbl := ab_kwok x1 hj138 hj136
      have hMt := ab_met x1 as h o h1 HM hna (by rw [hla]; exact hmlx) hras hro
      have hln : (Cond.methodLinkNest (ab_cs (ab_own i)) k (ab_yn x1) "ParserProof").before args s = true := va_Nw.use rfl (va_Nw.warmM hW0 (va_Nw.of rfl (hE.2.1 _ (hw _ (by exact List.mem_cons_self)))))
      have hst := hE.word (hw _ (by exact List.mem_cons_of_mem _ List.mem_cons_self)) rfl hW0 args
      have hh : ¬ (127 ≤ x1 ∧ x1 ≤ 135) := by
        have : ∀ q ∈ ab_CT, q.2.1 = 2 → ¬ (127 ≤ q.2.2.2 ∧ q.2.2.2 ≤ 135) := by decide +kernel
        exact this _ hct rfl
      rw [ab_kw_c hh] at hMt hkw
      refine ab_runSN (As := as.map (ab_tv ad)) (rest := rest.map (ab_tv ad)) hT hMt ⟨⟨⟨rfl, rfl, by show ab_fr x1 + 1 ≤ _; omega, by show 8 + (ab_ml x1 + 11) + ab_lo x1 ≤ _; omega, fun w hw a' U hW => ?_, List.mem_cons_self⟩, hE.word hkw rfl hW0 args, hini, hy, hsig, hln⟩, hst⟩ ⟨ab_Pc_blind, hPc⟩ rfl (by rw [List.length_map]; exact hla) hsz hstk hsum hd ⟨hcell, hslot⟩
      rw [List.mem_singleton.mp hw]
      exact hE.word hkw rfl (State.WarmedH.trans hW0 hW) a'
end Call9
end
section
/-! Calls that return, and calls that throw on: the relation is closed. -/
section So4
variable {l : Launch} {s0 : State} {a0 : Array Value} {ad : Nat → Nat} {dC : Nat → ClassId} {dI : Nat → Nat → Nat} {cA : Nat → ClassId} {N : Nat} {xs : Nat → Int32}
theorem ab_kk {h h1 h' : ab_S} (a : h 39 0 ≤ h1 39 0) (b : h1 39 0 ≤ h' 39 0) : ab_k h h1 + ab_k h1 h' = ab_k h h' := by
  unfold ab_k
  omega
theorem va_S.later {A : Nat → Prop} {H0 H : Heap} {locs : List Loc} (hS : va_S A H0 H locs) {st t T' : State} {L : List Loc} (h0 : st.heap = H) (e1 : T'.heap = t.heap) (hF : va_F A st t) (hL : ∀ q ∈ L, A q.base) : va_S A H0 T'.heap (locs ++ L) := by
  obtain ⟨f1, f2⟩ := hF
  rw [h0] at f1 f2
  refine ⟨Nat.le_trans hS.1 (by rw [e1]; exact f1), fun q h1 h2 => ?_, fun q hq => ?_⟩
  · rw [e1, f2 q (Nat.lt_of_lt_of_le h1 hS.1) h2]
    exact hS.2.1 q h1 h2
  · rcases List.mem_append.mp hq with h | h
    · exact hS.2.2 q h
    · exact hL q h
theorem so_call (hE : ab_E l s0 a0 ad dC dI cA N xs) (i n j : Nat) (as rest ls : List ab_V) (h : ab_S) (r : Option ab_V) (h1 : ab_S) (o : ab_O) (h' : ab_S) (hc : ab_cal i n j as rest) (HM : ab_MM l s0 ad dC dI cA N xs j 0 (ab_ent j as) [] h (Sum.inl r) h1)
    (HK : ab_MM l s0 ad dC dI cA N xs i (n + 1) ls (r.toList ++ rest) h1 o h') : ab_MM l s0 ad dC dI cA N xs i n ls (as.reverse ++ rest) h o h' := by
  refine ⟨Int.le_trans HM.1 HK.1, ?_⟩
  intro p e R s m args below meth c Hp locs cells slots lsA pc hcx hcell hslot hpc hro hP hS hls hrl hrs
  have ek := ab_kk HM.1 HK.1
  have hrun := ab_run (p := p) (e := e) (R := R) (s := s) (m := m) (args := args) (below := below) (meth := meth) (c := c) (H := Hp) (locs := locs) (cells := cells) (slots := slots) hE hc HM hcx hpc hro hP hS hls.1 hrs (by omega) (by omega)
  obtain ⟨t, ht, hj, hj138, hkind, -⟩ := hc
  have hrow : ∃ u, (ab_L i)[n + 1]? = some u ∧ u.1 = pc + 3 := by
    have hpc' : t.1 = pc := by
      rw [ht] at hpc
      exact Option.some.inj hpc
    have hlk := ab_lki ht
    obtain ⟨pc0, ins, len, x1, x2⟩ := t
    dsimp only at hpc' hlk hkind
    subst hpc'
    rcases hkind with ⟨k, rfl, -⟩ | ⟨k, rfl, -⟩
    · have hl : len = 3 := by simpa [ab_lk, ab_il] using hlk
      subst hl
      obtain ⟨u, hu⟩ := ab_end_of (ab_ends _ (ab_mt_mem i)) ht (fun z => nomatch z) (fun z => nomatch z) (fun z => nomatch z) (fun _ z => nomatch z)
      exact ⟨u, hu, (ab_gdi i).2 n _ u ht hu⟩
    · have hl : len = 3 := by simpa [ab_lk, ab_il] using hlk
      subst hl
      obtain ⟨u, hu⟩ := ab_end_of (ab_ends _ (ab_mt_mem i)) ht (fun z => nomatch z) (fun z => nomatch z) (fun z => nomatch z) (fun _ z => nomatch z)
      exact ⟨u, hu, (ab_gdi i).2 n _ u ht hu⟩
  obtain ⟨u, hu, hup⟩ := hrow
  intro T hT X
  rcases hrun T hT X with ⟨v, st₀, t9, T', L, h0, X', hL, e1, e2, ⟨r', er, ev, hP1, hro1, hr1, -, hF⟩, st⟩ | ⟨q, st₀, t9, T', L, E, ce, h0, X', hL, e1, e2, ⟨x, ex, -⟩, -⟩
  · cases er
    have hv : v = r.map (ab_tv ad) := Outcome.returned.inj ev
    subst hv
    have hrest : ab_rgs rest := fun w hw => hrs w (List.mem_append_right _ hw)
    have hS1 := va_S.later hS h0 e1 hF hL
    have := HK.2 p e R s m args below meth c T'.heap (locs ++ L) (cells + ab_k h h1) (slots + 6 * ab_k h h1) lsA (pc + 3) hcx (by omega) (by omega) (by rw [hu]; exact congrArg some hup) hro1 (by rw [e1]; exact hP1) hS1 hls hrl (fun w hw => by
      rcases List.mem_append.mp hw with z | z
      · exact hr1 w z
      · exact hrest w z)
    rw [show cells + ab_k h h1 + ab_k h1 h' = cells + ab_k h h' by omega, show slots + 6 * ab_k h h1 + 6 * ab_k h1 h' = slots + 6 * ab_k h h' by omega] at this
    obtain ⟨t2, a1, b1⟩ := this T' rfl X'
    refine ⟨t2, st t2 ?_, b1⟩
    have es : (r.map (ab_tv ad)).toList ++ rest.map (ab_tv ad) = (r.toList ++ rest).map (ab_tv ad) := by
      cases r <;> rfl
    rw [es]
    exact a1
  · cases ex
theorem so_callx (hE : ab_E l s0 a0 ad dC dI cA N xs) (i n j : Nat) (as rest ls : List ab_V) (h : ab_S) (x : Nat) (h1 : ab_S) (hc : ab_cal i n j as rest) (hi : ¬ (127 ≤ i ∧ i ≤ 135)) (HM : ab_MM l s0 ad dC dI cA N xs j 0 (ab_ent j as) [] h (Sum.inr x) h1) :
    ab_MM l s0 ad dC dI cA N xs i n ls (as.reverse ++ rest) h (Sum.inr x) h1 := by
  refine ⟨HM.1, ?_⟩
  intro p e R s m args below meth c Hp locs cells slots lsA pc hcx hcell hslot hpc hro hP hS hls hrl hrs
  have hrun := ab_run (p := p) (e := e) (R := R) (s := s) (m := m) (args := args) (below := below) (meth := meth) (c := c) (H := Hp) (locs := locs) (cells := cells) (slots := slots) hE hc HM hcx hpc hro hP hS hls.1 hrs hcell hslot
  obtain ⟨hx, hb, hml, hrt, hlks, hex, hown, hW0, hold, hfr, hlo⟩ := hcx
  intro T hT X
  rcases hrun T hT X with ⟨v, st₀, t9, T', L, h0, X', hL, e1, e2, ⟨r', er, -⟩, -⟩ | ⟨q, st₀, t9, T', L, E, ce, h0, X', hL, e1, e2, ⟨x', ex, eE, hx4, hP1, hro1, hF⟩, hce, hcv, hcl, st⟩
  · cases er
  · cases ex
    have hS1 := va_S.later hS h0 e1 hF hL
    have key : vx_W p l e R s m args below meth c T'.heap (locs ++ L) (cells + ab_k h h1) (slots + 6 * ab_k h h1) (vx_MQ below (ab_Qc s0 ad dC dI cA N xs (Sum.inr x) h1) (ab_XC s0 ad dC dI cA N xs (Sum.inr x) h1) args s (cells + ab_k h h1) (slots + 6 * ab_k h h1) (fun q => s0.heap.size ≤ q)) (F0 m pc lsA (rest.map (ab_tv ad))) q := by
      refine vx_out (E := E) (ce := ce) ?_ hlks (by rw [e1]; exact hce) hcv hcl (fun t ht ha => ⟨x, rfl, eE, hx4, by rw [ht, e1]; exact hP1, hro1, hS1.F ht⟩) hS1.2.2 (Nat.le_refl _) (Nat.le_refl _)
      intro z hz
      rw [hex] at hz
      unfold ab_hh at hz
      rw [if_neg hi] at hz
      exact nomatch hz
    obtain ⟨t2, a1, b1⟩ := key T' rfl X'
    exact ⟨t2, st.trans a1, b1⟩
end So4
end
section
/-! The words that a throw asks. -/
section Thw
def ab_nmz : List String := ["java/lang/RuntimeException", "java/lang/Exception"]
def ab_wok (w : Cond) : Bool := w.onTables && w.keepsFace
theorem th_0 : ∀ w ∈ vx_atS (ab_cs 5) 54 (ab_xs 0) ab_nmz, w ∈ lw_tbl ∧ ab_wok w = true := by decide +kernel
theorem th_1 : ∀ w ∈ vx_atS (ab_cs 5) 65 (ab_xs 1) ab_nmz, w ∈ lw_tbl ∧ ab_wok w = true := by decide +kernel
theorem th_2 : ∀ w ∈ vx_atS (ab_cs 5) 150 (ab_xs 2) ab_nmz, w ∈ lw_tbl ∧ ab_wok w = true := by decide +kernel
theorem th_3 : ∀ w ∈ vx_atS (ab_cs 5) 87 (ab_xs 3) ab_nmz, w ∈ lw_tbl ∧ ab_wok w = true := by decide +kernel
theorem th_c : ∀ q ∈ ab_TH, q.1 = 5 ∧ ((q.2.2.2.1 = 54 ∧ q.2.2.2.2 = 0) ∨ (q.2.2.2.1 = 65 ∧ q.2.2.2.2 = 1) ∨ (q.2.2.2.1 = 150 ∧ q.2.2.2.2 = 2) ∨ (q.2.2.2.1 = 87 ∧ q.2.2.2.2 = 3)) := by decide +kernel
theorem th_l : ∀ q ∈ ab_TH, Cond.classLink (ab_cs 5) q.2.1 (ab_xs q.2.2.2.2) ∈ lw_tbl := by decide +kernel
theorem th_i : ∀ x ∈ List.range 4, Cond.initialized (ab_xs x) ∈ lw_tbl ∧ Bundle.fit (ab_xs x) = true ∧ Cond.castable (ab_xs x) (ab_xs x) ∈ lw_tbl := by decide +kernel
end Thw
end
section
/-! Throws, copies of arrays: the relation is closed. -/
section Thr9
variable {l : Launch} {s0 : State} {a0 : Array Value} {ad : Nat → Nat} {dC : Nat → ClassId} {dI : Nat → Nat → Nat} {cA : Nat → ClassId} {N : Nat} {xs : Nat → Int32}
theorem ab_E.face (hE : ab_E l s0 a0 ad dC dI cA N xs) {w : Cond} (hw : w ∈ lw_tbl) (hg : ab_wok w = true) {s : State} (hW : s0.WarmedH s.vm) (a : Array Value) : w.before a s = true := by
  unfold ab_wok at hg
  rw [Bool.and_eq_true] at hg
  exact va_tabs hg.1 (rfl : (s0.setVm s.vm).vm = s.vm) (Cond.before_shiftedFace (State.Shifted.of_warmed hW) w hg.2 (hE.2.1 w hw))
theorem ab_wl_39 {h : ab_S} {i v : Int} : ab_wl ad cA (ab_up h 39 i v) = ab_wl ad cA h := by
  apply List.ext_getElem?
  intro j
  have hl : ∀ h : ab_S, (ab_wl ad cA h).length = 38 := fun h => (ab_wr_len _ _).trans ab_lay_len
  by_cases hj : j < 38
  · rw [ab_wl_get hj, ab_wl_get hj]
    have : ab_up h 39 i v j = h j := by
      funext q
      unfold ab_up
      rw [if_neg (by omega)]
    rw [this]
  · rw [List.getElem?_eq_none (by rw [hl]; omega), List.getElem?_eq_none (by rw [hl]; omega)]
theorem ab_rows5 {L : List ab_I} {n : Nat} {a0 a1 a2 a3 a4 : Instr} (h : ((L.drop n).take 5).map (fun t => t.2.1) = [a0, a1, a2, a3, a4]) : ∃ t0 t1 t2 t3 t4 : ab_I, L[n]? = some t0 ∧ L[n + 1]? = some t1 ∧ L[n + 2]? = some t2 ∧ L[n + 3]? = some t3 ∧ L[n + 4]? = some t4 ∧ t0.2.1 = a0 ∧ t1.2.1 = a1 ∧ t2.2.1 = a2 ∧ t3.2.1 = a3 ∧ t4.2.1 = a4 := by
  have key : ∀ (k : Nat) (a : Instr), k < 5 → [a0, a1, a2, a3, a4][k]? = some a → ∃ t : ab_I, L[n + k]? = some t ∧ t.2.1 = a := by
    intro k a hk ha
    rw [← h, List.getElem?_map, List.getElem?_take_of_lt hk, List.getElem?_drop] at ha
    cases e : L[n + k]? with
    | none => rw [e] at ha; cases ha
    | some t => rw [e] at ha; exact ⟨t, rfl, Option.some.inj ha⟩
  obtain ⟨t0, p0, q0⟩ := key 0 a0 (by omega) rfl
  obtain ⟨t1, p1, q1⟩ := key 1 a1 (by omega) rfl
  obtain ⟨t2, p2, q2⟩ := key 2 a2 (by omega) rfl
  obtain ⟨t3, p3, q3⟩ := key 3 a3 (by omega) rfl
  obtain ⟨t4, p4, q4⟩ := key 4 a4 (by omega) rfl
  exact ⟨t0, t1, t2, t3, t4, p0, p1, p2, p3, p4, q0, q1, q2, q3, q4⟩
theorem ab_own5 {i : Nat} (h : ab_own i = 5) : ¬ (127 ≤ i ∧ i ≤ 135) := by
  intro z
  have : ∀ j ∈ List.range 9, ab_own (127 + j) = 7 := by decide +kernel
  have := this (i - 127) (List.mem_range.mpr (by omega))
  rw [show 127 + (i - 127) = i by omega, h] at this
  cases this
theorem so_thr (hE : ab_E l s0 a0 ad dC dI cA N xs) (i n x : Nat) (ls st : List ab_V) (h : ab_S) (hthr : ab_thr i n x) (hnl : ab_nl st = true) (hl8 : st.length ≤ 8) : ab_MM l s0 ad dC dI cA N xs i n ls st h (Sum.inr x) (ab_up h 39 0 (h 39 0 + 1)) := by
  have e39 : ab_up h 39 0 (h 39 0 + 1) 39 0 = h 39 0 + 1 := by
    unfold ab_up
    rw [if_pos rfl, if_pos rfl]
  have ek : ab_k h (ab_up h 39 0 (h 39 0 + 1)) = 1 := by
    unfold ab_k
    rw [e39]
    omega
  refine ⟨by rw [e39]; omega, ?_⟩
  intro p e R s m args below meth c Hp locs cells slots lsA pc hcx hcell hslot hpc hro hP hS hls hrl hrs
  rw [ek] at hcell hslot
  rw [ek]
  obtain ⟨ik, is, ic, hth, hrows, hf6, hl90⟩ := hthr
  obtain ⟨t0, t1, t2, t3, t4, p0, p1, p2, p3, p4, q0, q1, q2, q3, q4⟩ := ab_rows5 hrows
  have hpc' : t0.1 = pc := by
    rw [p0] at hpc
    exact Option.some.inj hpc
  have g0 := (ab_gdi i).2 n t0 t1 p0 p1
  have g1 := (ab_gdi i).2 (n + 1) t1 t2 p1 p2
  have g2 := (ab_gdi i).2 (n + 2) t2 t3 p2 p3
  have g3 := (ab_gdi i).2 (n + 3) t3 t4 p3 p4
  have len : ∀ {n : Nat} {t : ab_I} {a : Instr}, (ab_L i)[n]? = some t → t.2.1 = a → (∀ d lo hi offs, a ≠ .tableswitch d lo hi offs) → t.2.2.1 = ab_il a := by
    intro n t a ht he hne
    have := ab_lki ht
    unfold ab_lk at this
    rw [he] at this
    split at this
    · exact absurd rfl (hne _ _ _ _)
    · exact beq_iff_eq.mp this
  have l0 := len p0 q0 (fun _ _ _ _ z => nomatch z)
  have l1 := len p1 q1 (fun _ _ _ _ z => nomatch z)
  have l2 := len p2 q2 (fun _ _ _ _ z => nomatch z)
  have l3 := len p3 q3 (fun _ _ _ _ z => nomatch z)
  have l4 := len p4 q4 (fun _ _ _ _ z => nomatch z)
  have d0 := ((ab_gdi i).1 n t0 p0).1
  have d1 := ((ab_gdi i).1 _ t1 p1).1
  have d2 := ((ab_gdi i).1 _ t2 p2).1
  have d3 := ((ab_gdi i).1 _ t3 p3).1
  have d4 := ((ab_gdi i).1 _ t4 p4).1
  rw [q0, l0, hpc'] at d0
  rw [l0, hpc'] at g0
  rw [q1, l1, g0] at d1
  rw [l1, g0] at g1
  rw [q2, l2, g1] at d2
  rw [l2, g1] at g2
  rw [q3, l3, g2] at d3
  rw [l3, g2] at g3
  rw [q4, l4, g3] at d4
  obtain ⟨hx, hb, hml, hrt, hlks, hex, hown, hW0, hold, hfr, hlo⟩ := hcx
  obtain ⟨h5, hcs⟩ := th_c _ hth
  dsimp only at h5 hcs
  have hx4 : x < 4 := by omega
  obtain ⟨hin, hfit, -⟩ := th_i x (List.mem_range.mpr hx4)
  have hat : ∀ w ∈ vx_atS (ab_cs 5) ic (ab_xs x) ab_nmz, w ∈ lw_tbl ∧ ab_wok w = true := by
    rcases hcs with ⟨rfl, rfl⟩ | ⟨rfl, rfl⟩ | ⟨rfl, rfl⟩ | ⟨rfl, rfl⟩
    · exact th_0
    · exact th_1
    · exact th_2
    · exact th_3
  obtain ⟨tx, sa, hstr⟩ := hE.2.2.2.2.2.2.2.2.2.1 _ hth
  dsimp only at hstr
  rw [h5] at hstr hown
  have hlnk := th_l _ hth
  have hU := vx_Zq.moved hW0.alike (vx_Zq.kept hE.2.2.2.2.2.2.2.1 (H1 := s.heap) (fun a ha _ => hold.2 a ha))
  have hN := vx_Zq.moved hW0.alike (vx_Zq.kept hE.2.2.2.2.2.2.2.2.1 (H1 := s.heap) (fun a ha _ => hold.2 a ha))
  refine vx_throwS (own := ab_cs 5) (cls := ab_xs x) (text := tx) (names := ab_nmz) (ik := ik) (is := is) (ic := ic) (sa := sa) (A := fun q => s0.heap.size ≤ q) hx hb hE.1 hown hfit (by decide +kernel) (hE.word hlnk rfl hW0 args) (hE.word hin rfl hW0 args) (vk_R.warm hW0 hstr) (fun w hw => hE.face (hat w hw).1 (hat w hw).2 hW0 args) ?_ hU hN hS (by rw [hml]; exact hls.1) d0 d1 d2 d3 d4 ?_ ?_ ?_ hcell (by omega) hlks ?_ hS.2.2 (Nat.le_refl _) (by omega)
  · intro w hw
    rcases List.mem_cons.mp hw with rfl | hw
    · rfl
    · rcases List.mem_cons.mp hw with rfl | hw
      · rfl
      · have h9 := (hat w hw).2
        unfold ab_wok at h9
        rw [Bool.and_eq_true] at h9
        unfold vx_ot
        rw [h9.1]
        rfl
  · intro z hz
    rw [hex] at hz
    unfold ab_hh at hz
    rw [if_neg (ab_own5 h5)] at hz
    exact nomatch hz
  · show 2 + 3 < _
    omega
  · rw [nl_sum st hnl]
    show _ + (13 * (2 + 1) + 43) ≤ _
    omega
  · intro t hvm hsz hkeep
    refine ⟨x, rfl, rfl, hx4, ?_, ?_, ?_, ?_⟩
    · rw [ab_wl_39]
      exact fun k q hq => (hP k q hq).kept (hkeep _ (hP k q hq).lt)
    · refine ⟨fun k j hk => ?_, ?_, fun j hj => ?_⟩
      · unfold ab_up
        rw [if_neg hk]
        exact hro.1 k j hk
      · unfold ab_up
        rw [if_neg (by decide)]
        exact hro.2.1
      · unfold ab_up
        rw [if_neg (by decide)]
        exact hro.2.2 j hj
    · exact Nat.le_trans hS.1 hsz
    · intro q hq hA
      rw [hkeep q (Nat.lt_of_lt_of_le hq hS.1)]
      exact hS.2.1 q hq hA
end Thr9
end
section
/-! System.arraycopy between two arrays of ints of the world: the relation is closed. -/
section Cp9
variable {l : Launch} {s0 : State} {a0 : Array Value} {ad : Nat → Nat} {dC : Nat → ClassId} {dI : Nat → Nat → Nat} {cA : Nat → ClassId} {N : Nat} {xs : Nat → Int32}
def ab_cpk (m : ab_Mt) (t : ab_I) : Bool := match t.2.1 with
  | .invokestatic k => !(t.2.2.2.1 == 9999) || (m.1 == 0 && k == 38 && decide (2 ≤ m.2.2.2.2.2.1) && decide (60 ≤ m.2.2.2.2.2.2.1))
  | _ => true
set_option maxRecDepth 100000 in
theorem ab_cpks : ∀ m ∈ ab_Ms, (m.2.2.2.2.2.2.2.all (ab_cpk m)) = true := by decide +kernel
theorem cp_w : (Cond.methodLink (ab_cs 0) 38 arraycopyName ∈ lw_tbl ∧ Cond.native arraycopyName ∈ lw_tbl) ∧ Cond.static arraycopyName ∈ lw_tbl ∧ Cond.initialized "java/lang/System" ∈ lw_tbl := by decide +kernel
theorem cp_n : nativeFrameWords "java/lang/System" "arraycopy" 5 + 11 + 3 ≤ 60 := by decide +kernel
theorem ab_cp_fun {h : ab_S} {k d : Nat} {p q m : Int} : ab_cp h k p d q m = fun k' => if k' = d then (fun i' => if q ≤ i' ∧ i' < q + m then h k (p + (i' - q)) else h d i') else h k' := by
  funext k' i'
  unfold ab_cp
  by_cases e : k' = d
  · subst e
    simp
  · simp [e]
theorem so_cp (hE : ab_E l s0 a0 ad dC dI cA N xs) (i n : Nat) (t : ab_I) (k : Nat) (w q : Int) (d : Nat) (pp : Int) (sc : Nat) (rest ls : List ab_V) (h : ab_S) (o : ab_O) (h' : ab_S) (ht : (ab_L i)[n]? = some t) (he : t.2.1 = .invokestatic k) (hj : t.2.2.2.1 = 9999) (hts : ab_ty sc = 0) (htd : ab_ty d = 0) (hs38 : sc < 38) (hd38 : d < 38) (hne : ¬ sc = d)
    (hbd : 0 ≤ pp ∧ 0 ≤ q ∧ 0 ≤ w ∧ pp + w ≤ ab_ln h sc ∧ q + w ≤ ab_ln h d) (hnl : ab_nl rest = true) (hr3 : rest.length ≤ 3) (HM : ab_MM l s0 ad dC dI cA N xs i (n + 1) ls rest (ab_cp h sc pp d q w) o h') :
    ab_MM l s0 ad dC dI cA N xs i n ls (vI w :: vI q :: vR d :: vI pp :: vR sc :: rest) h o h' := by
  have e9 : ab_cp h sc pp d q w 39 0 = h 39 0 := by
    unfold ab_cp
    rw [if_neg (by omega)]
  have ek : ab_k (ab_cp h sc pp d q w) h' = ab_k h h' := by unfold ab_k; rw [e9]
  refine ⟨by rw [← e9]; exact HM.1, ?_⟩
  intro p e R s m args below meth c Hp locs cells slots lsA pc hcx hcell hslot hpc hro hP hS hls hrl hrs
  obtain ⟨hdc, hc1⟩ := (ab_gdi i).1 n t ht
  have hlk := ab_lki ht
  have hcpk : ab_cpk (ab_mt i) t = true := List.all_eq_true.mp (ab_cpks _ (ab_mt_mem i)) t (List.mem_of_getElem? ht)
  have hpc' : t.1 = pc := by
    rw [ht] at hpc
    exact Option.some.inj hpc
  obtain ⟨u, hu⟩ := ab_end_of (ab_ends _ (ab_mt_mem i)) ht (by rw [he]; exact fun z => nomatch z) (by rw [he]; exact fun z => nomatch z) (by rw [he]; exact fun z => nomatch z) (by rw [he]; exact fun _ z => nomatch z)
  have hup := (ab_gdi i).2 n t u ht hu
  have hcx' := hcx
  obtain ⟨hx, hb, hml, hrt, hlks, hex, hown, hW0, hold, hfr, hlo⟩ := hcx
  obtain ⟨pc0, ins, len, x1, x2⟩ := t
  dsimp only at hpc' hdc hlk he hj hup
  subst hpc'
  subst he
  subst hj
  have hl : len = 3 := by simpa [ab_lk, ab_il] using hlk
  subst hl
  simp only [ab_cpk, beq_self_eq_true, Bool.not_true, Bool.false_or, Bool.and_eq_true, beq_iff_eq, decide_eq_true_eq] at hcpk
  obtain ⟨⟨⟨h0, rfl⟩, hf2⟩, hl60⟩ := hcpk
  have hf2 : 2 ≤ ab_fr i := hf2
  have hl60 : 60 ≤ ab_lo i := hl60
  have hown' : s.vm.findClass (ab_cs 0) = some m.cls := by
    rw [← show ab_own i = 0 from h0]
    exact hown
  have e1 : ¬ sc = 38 := by omega
  have e2 : ¬ d = 38 := by omega
  rw [ab_ty_ne e1] at hts
  rw [ab_ty_ne e2] at htd
  rw [ab_ln_ne e1, ab_ln_ne e2] at hbd
  have ha := ab_wl_get (ad := ad) (cA := cA) (h := h) hs38
  have hb2 := ab_wl_get (ad := ad) (cA := cA) (h := h) hd38
  rw [ab_ce_arr hts] at ha
  rw [ab_ce_arr htd] at hb2
  have hK : va_K (dC, dI) ab_cls [(cA 0, .int), (cA 1, .boolean), (cA 2, .long)] s := va_K.moved hW0.alike hE.2.2.2.1
  have rw' : ab_rg w := rgs_h hrs
  have rq : ab_rg q := rgs_h (rgs_t hrs)
  have rp : ab_rg pp := rgs_h (rgs_t (rgs_t (rgs_t hrs)))
  have r0 : ab_rg 0 := ⟨by decide, by decide⟩
  have hcn := cp_n
  refine va_copyi hx hb (by rw [hml]; exact hls.1.symm) hown' (hE.word cp_w.1.1 rfl hW0 args) (hE.word cp_w.1.2 rfl hW0 args) (hE.word cp_w.2.1 rfl hW0 args) (hE.word cp_w.2.2 rfl hW0 args) hK hP (hE.apart h) hS sc d 0 0 ha hb2 rfl rfl rfl
    (fun z => by have := (i3_lt rp r0).mp z; omega) (fun z => by have := (i3_lt rq r0).mp z; omega) (fun z => by have := (i3_lt rw' r0).mp z; omega) (by rw [i3_clamp rp, i3_clamp rw']; omega) (by rw [i3_clamp rq, i3_clamp rw']; omega) (fun _ _ => rfl) (by omega) (by rw [nl_sum rest hnl]; omega) hdc (fun H1 locs1 p1 d1 s1 => ?_)
  have hcpy : va_cpy (fun j : Nat => Int32.ofInt (h sc (j : Int))) (fun j : Nat => Int32.ofInt (h d (j : Int))) (Int32.ofInt pp).toNatClampNeg (Int32.ofInt q).toNatClampNeg (Int32.ofInt w).toNatClampNeg = fun j : Nat => Int32.ofInt ((fun i' => if q ≤ i' ∧ i' < q + w then h sc (pp + (i' - q)) else h d i') (j : Int)) := by
    funext j
    rw [i3_clamp rp, i3_clamp rq, i3_clamp rw']
    unfold va_cpy
    dsimp only
    by_cases z : q.toNat ≤ j ∧ j < q.toNat + w.toNat
    · rw [if_pos z, if_pos (by omega)]
      congr 2
      omega
    · rw [if_neg z, if_neg (by omega)]
  rw [hcpy, ab_wl_set hd38 (fun i' => if q ≤ i' ∧ i' < q + w then h sc (pp + (i' - q)) else h d i') (ab_ce_arr htd).symm, ← ab_cp_fun] at p1
  have hro1 : ab_ro N xs (ab_cp h sc pp d q w) := by
    refine ⟨fun k' j hk' => ?_, ?_, fun j hj => ?_⟩
    · unfold ab_cp
      split
      · split
        · exact hro.1 sc _ (by omega)
        · exact hro.1 k' j hk'
      · exact hro.1 k' j hk'
    · unfold ab_cp
      rw [if_neg (by omega)]
      exact hro.2.1
    · unfold ab_cp
      rw [if_neg (by omega)]
      exact hro.2.2 j hj
  have := HM.2 p e R s m args below meth c H1 locs1 cells slots lsA (pc0 + 3) hcx' (by rw [ek]; exact hcell) (by rw [ek]; exact hslot) (by rw [hu]; exact congrArg some hup) hro1 p1 s1 hls hrl (rgs_t (rgs_t (rgs_t (rgs_t (rgs_t hrs)))))
  rw [ek] at this
  exact this
end Cp9
end
section
/-! Exceptions that the law's own methods catch: the relation is closed. -/
section Cat9
variable {l : Launch} {s0 : State} {a0 : Array Value} {ad : Nat → Nat} {dC : Nat → ClassId} {dI : Nat → Nat → Nat} {cA : Nat → ClassId} {N : Nat} {xs : Nat → Int32}
/-- what a handler that answers c must be -/
def ab_hok (i x : Nat) (c : Int) : Prop := ∃ (hp : List (Nat × Nat × Nat × Nat)) (z : Nat × Nat × Nat × Nat) (hs : List (Nat × Nat × Nat × Nat)), ab_hh i = hp ++ z :: hs ∧ z.1 = 0 ∧ z.2.2.2 ≠ 0 ∧ x < 4 ∧ ab_rg c ∧ ab_own i = 7 ∧ ab_rt i = some .int ∧
  (∀ t ∈ ab_L i, ∀ k, (t.2.1 = .invokevirtual k ∨ t.2.1 = .invokestatic k) → t.1 < z.2.1) ∧ Cond.classLink (ab_cs 7) z.2.2.2 (ab_xs x) ∈ lw_tbl ∧
  (∀ w ∈ hp, w.2.2.2 ≠ 0 ∧ ∃ y, y < 4 ∧ x ≠ y ∧ Cond.classLink (ab_cs 7) w.2.2.2 (ab_xs y) ∈ lw_tbl) ∧
  ∃ ln, ((∃ k : Fin 4, decode (ab_bc i) z.2.2.1 = .ok (.astore_n k, 1) ∧ k.val < ab_ml i ∧ ln = 1) ∨ (∃ k : Nat, decode (ab_bc i) z.2.2.1 = .ok (.astore k, 2) ∧ k < ab_ml i ∧ ln = 2)) ∧ decode (ab_bc i) (z.2.2.1 + ln) = .ok (.iconst c, 1) ∧ decode (ab_bc i) (z.2.2.1 + ln + 1) = .ok (.ireturn, 1)
theorem so_callc (hE : ab_E l s0 a0 ad dC dI cA N xs) (i n j : Nat) (as rest ls : List ab_V) (h : ab_S) (x : Nat) (h1 : ab_S) (v : Int) (hc : ab_cal i n j as rest) (hok : ab_hok i x v) (HM : ab_MM l s0 ad dC dI cA N xs j 0 (ab_ent j as) [] h (Sum.inr x) h1) :
    ab_MM l s0 ad dC dI cA N xs i n ls (as.reverse ++ rest) h (oI v) h1 := by
  refine ⟨HM.1, ?_⟩
  intro p e R s m args below meth c Hp locs cells slots lsA pc hcx hcell hslot hpc hro hP hS hls hrl hrs
  have hrun := ab_run (p := p) (e := e) (R := R) (s := s) (m := m) (args := args) (below := below) (meth := meth) (c := c) (H := Hp) (locs := locs) (cells := cells) (slots := slots) hE hc HM hcx hpc hro hP hS hls.1 hrs hcell hslot
  obtain ⟨hx, hb, hml, hrt, hlks, hex, hown, hW0, hold, hfr, hlo⟩ := hcx
  obtain ⟨hp, z, hs, hsp, z0, zct, hx4, hrg, h7, hri, hcov, hlnk, hpre, ln, hast, hic, hir⟩ := hok
  rw [h7] at hown
  obtain ⟨t, ht, hj, hj138, hkind, -⟩ := hc
  have hpc' : t.1 = pc := by
    rw [ht] at hpc
    exact Option.some.inj hpc
  have hlt : pc < z.2.1 := by
    rw [← hpc']
    rcases hkind with ⟨k, ek, -⟩ | ⟨k, ek, -⟩
    · exact hcov t (List.mem_of_getElem? ht) k (Or.inl ek)
    · exact hcov t (List.mem_of_getElem? ht) k (Or.inr ek)
  intro T hT X
  rcases hrun T hT X with ⟨v9, st₀, t9, T', L, h0, X', hL, e1, e2, ⟨r', er, -⟩, -⟩ | ⟨q, st₀, t9, T', L, E, ce, h0, X', hL, e1, e2, ⟨x', ex, eE, -, hP1, hro1, hF⟩, hce, hcv, hcl, st⟩
  · cases er
  · cases ex
    subst eE
    have hS1 := va_S.later hS h0 e1 hF hL
    have fin : ∀ A9 : Array Slot, W p l e R s m args below meth c T'.heap (locs ++ L) (cells + ab_k h h1) (slots + 6 * ab_k h h1) (vx_MQ below (ab_Qc s0 ad dC dI cA N xs (oI v) h1) (ab_XC s0 ad dC dI cA N xs (oI v) h1) args s (cells + ab_k h h1) (slots + 6 * ab_k h h1) (fun q => s0.heap.size ≤ q)) (F0 m (z.2.2.1 + ln) A9 []) := by
      intro A9
      refine lv_iconst hx hb hic rfl ?_
      exact vx_ret (W.iret hx hb (hrt.trans hri) (fun t ht hW => ⟨some (vI v), rfl, rfl, by rw [ht, e1]; exact hP1, hro1, rgs_c hrg (fun _ w => nomatch w), rfl, hS1.F ht⟩) hS1.2.2 hir hlks)
    have key : vx_W p l e R s m args below meth c T'.heap (locs ++ L) (cells + ab_k h h1) (slots + 6 * ab_k h h1) (vx_MQ below (ab_Qc s0 ad dC dI cA N xs (oI v) h1) (ab_XC s0 ad dC dI cA N xs (oI v) h1) args s (cells + ab_k h h1) (slots + 6 * ab_k h h1) (fun q => s0.heap.size ≤ q)) (F0 m pc lsA (rest.map (ab_tv ad))) q := by
      have hmap : c.exceptionTable.toList = tableOf hp ++ (tableOf [z]).head! :: tableOf hs := by
        rw [hex, hsp]
        simp [tableOf]
        rfl
      refine vx_catch (own := ab_cs 7) (name := ab_xs x) (E := ab_xs x) (ce := ce) hown (tableOf hp) ((tableOf [z]).head!) (tableOf hs) hmap ?_ ?_ ?_ ?_ ?_ (by rw [e1]; exact hce) hcv hcl ?_
      · intro w hw
        obtain ⟨w0, hw0, rfl⟩ := List.mem_map.mp hw
        obtain ⟨b1, y, hy4, hxy, hyl⟩ := hpre w0 hw0
        exact Or.inr ⟨b1, ab_xs y, hE.word hyl rfl hW0 args, va_Nc.moved hW0.alike (hE.2.2.2.2.2.2.2.2.2.2 x (List.mem_range.mpr hx4) y (List.mem_range.mpr hy4) hxy)⟩
      · show (decide (z.1 ≤ pc) && decide (pc < z.2.1)) = true
        rw [z0]
        simp [hlt]
      · exact zct
      · exact hE.word hlnk rfl hW0 args
      · exact hE.face (th_i x (List.mem_range.mpr hx4)).2.2 rfl hW0 args
      · show W _ _ _ _ _ _ _ _ _ _ _ _ _ _ _ (F0 m z.2.2.1 lsA [.ref q])
        rcases hast with ⟨k, ha, hk, rfl⟩ | ⟨k, ha, hk, rfl⟩
        · exact lv_astore_n hx hb ha rfl hls.has hk rfl (fun A9 _ => fin A9)
        · exact lv_astore hx hb ha hls.has hk rfl (fun A9 _ => fin A9)
    obtain ⟨t2, a1, b1⟩ := key T' rfl X'
    exact ⟨t2, st.trans a1, b1⟩
set_option maxRecDepth 100000 in
theorem hk_127_0_c : ∀ t ∈ ab_L 127, (match t.2.1 with
    | .invokevirtual _ => decide (t.1 < 9)
    | .invokestatic _ => decide (t.1 < 9)
    | _ => true) = true := by decide +kernel
theorem hk_127_0 : ab_hok 127 0 1 := ⟨[], (0, 9, 12, 13), [(0, 9, 15, 15)], rfl, rfl, by decide, by decide, ⟨by decide, by decide⟩, rfl, rfl, (fun t ht k hk => by
  have := hk_127_0_c t ht
  rcases hk with e | e
  · rw [e] at this
    exact of_decide_eq_true this
  · rw [e] at this
    exact of_decide_eq_true this), List.mem_append_right _ (List.mem_of_getElem? (i := 234) (by decide +kernel)), fun w hw => absurd hw List.not_mem_nil, 1, Or.inl ⟨3, by decide +kernel, by decide +kernel, rfl⟩, by decide +kernel, by decide +kernel⟩
set_option maxRecDepth 100000 in
theorem hk_127_1_c : ∀ t ∈ ab_L 127, (match t.2.1 with
    | .invokevirtual _ => decide (t.1 < 9)
    | .invokestatic _ => decide (t.1 < 9)
    | _ => true) = true := by decide +kernel
theorem hk_127_1 : ab_hok 127 1 2 := ⟨[(0, 9, 12, 13)], (0, 9, 15, 15), [], rfl, rfl, by decide, by decide, ⟨by decide, by decide⟩, rfl, rfl, (fun t ht k hk => by
  have := hk_127_1_c t ht
  rcases hk with e | e
  · rw [e] at this
    exact of_decide_eq_true this
  · rw [e] at this
    exact of_decide_eq_true this), List.mem_append_right _ (List.mem_of_getElem? (i := 235) (by decide +kernel)), fun w hw => by rw [List.mem_singleton.mp hw]; exact ⟨by decide, 0, by decide, by decide, List.mem_append_right _ (List.mem_of_getElem? (i := 234) (by decide +kernel))⟩, 1, Or.inl ⟨3, by decide +kernel, by decide +kernel, rfl⟩, by decide +kernel, by decide +kernel⟩
set_option maxRecDepth 100000 in
theorem hk_128_1_c : ∀ t ∈ ab_L 128, (match t.2.1 with
    | .invokevirtual _ => decide (t.1 < 8)
    | .invokestatic _ => decide (t.1 < 8)
    | _ => true) = true := by decide +kernel
theorem hk_128_1 : ab_hok 128 1 1 := ⟨[], (0, 8, 11, 15), [(0, 8, 14, 21)], rfl, rfl, by decide, by decide, ⟨by decide, by decide⟩, rfl, rfl, (fun t ht k hk => by
  have := hk_128_1_c t ht
  rcases hk with e | e
  · rw [e] at this
    exact of_decide_eq_true this
  · rw [e] at this
    exact of_decide_eq_true this), List.mem_append_right _ (List.mem_of_getElem? (i := 235) (by decide +kernel)), fun w hw => absurd hw List.not_mem_nil, 1, Or.inl ⟨2, by decide +kernel, by decide +kernel, rfl⟩, by decide +kernel, by decide +kernel⟩
set_option maxRecDepth 100000 in
theorem hk_128_3_c : ∀ t ∈ ab_L 128, (match t.2.1 with
    | .invokevirtual _ => decide (t.1 < 8)
    | .invokestatic _ => decide (t.1 < 8)
    | _ => true) = true := by decide +kernel
theorem hk_128_3 : ab_hok 128 3 2 := ⟨[(0, 8, 11, 15)], (0, 8, 14, 21), [], rfl, rfl, by decide, by decide, ⟨by decide, by decide⟩, rfl, rfl, (fun t ht k hk => by
  have := hk_128_3_c t ht
  rcases hk with e | e
  · rw [e] at this
    exact of_decide_eq_true this
  · rw [e] at this
    exact of_decide_eq_true this), List.mem_append_right _ (List.mem_of_getElem? (i := 345) (by decide +kernel)), fun w hw => by rw [List.mem_singleton.mp hw]; exact ⟨by decide, 1, by decide, by decide, List.mem_append_right _ (List.mem_of_getElem? (i := 235) (by decide +kernel))⟩, 1, Or.inl ⟨2, by decide +kernel, by decide +kernel, rfl⟩, by decide +kernel, by decide +kernel⟩
set_option maxRecDepth 100000 in
theorem hk_129_2_c : ∀ t ∈ ab_L 129, (match t.2.1 with
    | .invokevirtual _ => decide (t.1 < 10)
    | .invokestatic _ => decide (t.1 < 10)
    | _ => true) = true := by decide +kernel
theorem hk_129_2 : ab_hok 129 2 1 := ⟨[], (0, 10, 13, 27), [], rfl, rfl, by decide, by decide, ⟨by decide, by decide⟩, rfl, rfl, (fun t ht k hk => by
  have := hk_129_2_c t ht
  rcases hk with e | e
  · rw [e] at this
    exact of_decide_eq_true this
  · rw [e] at this
    exact of_decide_eq_true this), List.mem_append_right _ (List.mem_of_getElem? (i := 457) (by decide +kernel)), fun w hw => absurd hw List.not_mem_nil, 2, Or.inr ⟨4, by decide +kernel, by decide +kernel, rfl⟩, by decide +kernel, by decide +kernel⟩
set_option maxRecDepth 100000 in
theorem hk_130_2_c : ∀ t ∈ ab_L 130, (match t.2.1 with
    | .invokevirtual _ => decide (t.1 < 7)
    | .invokestatic _ => decide (t.1 < 7)
    | _ => true) = true := by decide +kernel
theorem hk_130_2 : ab_hok 130 2 1 := ⟨[], (0, 7, 10, 27), [(0, 7, 14, 13)], rfl, rfl, by decide, by decide, ⟨by decide, by decide⟩, rfl, rfl, (fun t ht k hk => by
  have := hk_130_2_c t ht
  rcases hk with e | e
  · rw [e] at this
    exact of_decide_eq_true this
  · rw [e] at this
    exact of_decide_eq_true this), List.mem_append_right _ (List.mem_of_getElem? (i := 457) (by decide +kernel)), fun w hw => absurd hw List.not_mem_nil, 2, Or.inr ⟨4, by decide +kernel, by decide +kernel, rfl⟩, by decide +kernel, by decide +kernel⟩
set_option maxRecDepth 100000 in
theorem hk_130_0_c : ∀ t ∈ ab_L 130, (match t.2.1 with
    | .invokevirtual _ => decide (t.1 < 7)
    | .invokestatic _ => decide (t.1 < 7)
    | _ => true) = true := by decide +kernel
theorem hk_130_0 : ab_hok 130 0 2 := ⟨[(0, 7, 10, 27)], (0, 7, 14, 13), [], rfl, rfl, by decide, by decide, ⟨by decide, by decide⟩, rfl, rfl, (fun t ht k hk => by
  have := hk_130_0_c t ht
  rcases hk with e | e
  · rw [e] at this
    exact of_decide_eq_true this
  · rw [e] at this
    exact of_decide_eq_true this), List.mem_append_right _ (List.mem_of_getElem? (i := 234) (by decide +kernel)), fun w hw => by rw [List.mem_singleton.mp hw]; exact ⟨by decide, 2, by decide, by decide, List.mem_append_right _ (List.mem_of_getElem? (i := 457) (by decide +kernel))⟩, 2, Or.inr ⟨4, by decide +kernel, by decide +kernel, rfl⟩, by decide +kernel, by decide +kernel⟩
set_option maxRecDepth 100000 in
theorem hk_131_2_c : ∀ t ∈ ab_L 131, (match t.2.1 with
    | .invokevirtual _ => decide (t.1 < 21)
    | .invokestatic _ => decide (t.1 < 21)
    | _ => true) = true := by decide +kernel
theorem hk_131_2 : ab_hok 131 2 1 := ⟨[], (0, 21, 24, 27), [(0, 21, 28, 13)], rfl, rfl, by decide, by decide, ⟨by decide, by decide⟩, rfl, rfl, (fun t ht k hk => by
  have := hk_131_2_c t ht
  rcases hk with e | e
  · rw [e] at this
    exact of_decide_eq_true this
  · rw [e] at this
    exact of_decide_eq_true this), List.mem_append_right _ (List.mem_of_getElem? (i := 457) (by decide +kernel)), fun w hw => absurd hw List.not_mem_nil, 2, Or.inr ⟨6, by decide +kernel, by decide +kernel, rfl⟩, by decide +kernel, by decide +kernel⟩
set_option maxRecDepth 100000 in
theorem hk_131_0_c : ∀ t ∈ ab_L 131, (match t.2.1 with
    | .invokevirtual _ => decide (t.1 < 21)
    | .invokestatic _ => decide (t.1 < 21)
    | _ => true) = true := by decide +kernel
theorem hk_131_0 : ab_hok 131 0 2 := ⟨[(0, 21, 24, 27)], (0, 21, 28, 13), [], rfl, rfl, by decide, by decide, ⟨by decide, by decide⟩, rfl, rfl, (fun t ht k hk => by
  have := hk_131_0_c t ht
  rcases hk with e | e
  · rw [e] at this
    exact of_decide_eq_true this
  · rw [e] at this
    exact of_decide_eq_true this), List.mem_append_right _ (List.mem_of_getElem? (i := 234) (by decide +kernel)), fun w hw => by rw [List.mem_singleton.mp hw]; exact ⟨by decide, 2, by decide, by decide, List.mem_append_right _ (List.mem_of_getElem? (i := 457) (by decide +kernel))⟩, 2, Or.inr ⟨6, by decide +kernel, by decide +kernel, rfl⟩, by decide +kernel, by decide +kernel⟩
set_option maxRecDepth 100000 in
theorem hk_132_2_c : ∀ t ∈ ab_L 132, (match t.2.1 with
    | .invokevirtual _ => decide (t.1 < 21)
    | .invokestatic _ => decide (t.1 < 21)
    | _ => true) = true := by decide +kernel
theorem hk_132_2 : ab_hok 132 2 1 := ⟨[], (0, 21, 24, 27), [(0, 21, 28, 13)], rfl, rfl, by decide, by decide, ⟨by decide, by decide⟩, rfl, rfl, (fun t ht k hk => by
  have := hk_132_2_c t ht
  rcases hk with e | e
  · rw [e] at this
    exact of_decide_eq_true this
  · rw [e] at this
    exact of_decide_eq_true this), List.mem_append_right _ (List.mem_of_getElem? (i := 457) (by decide +kernel)), fun w hw => absurd hw List.not_mem_nil, 2, Or.inr ⟨6, by decide +kernel, by decide +kernel, rfl⟩, by decide +kernel, by decide +kernel⟩
set_option maxRecDepth 100000 in
theorem hk_132_0_c : ∀ t ∈ ab_L 132, (match t.2.1 with
    | .invokevirtual _ => decide (t.1 < 21)
    | .invokestatic _ => decide (t.1 < 21)
    | _ => true) = true := by decide +kernel
theorem hk_132_0 : ab_hok 132 0 2 := ⟨[(0, 21, 24, 27)], (0, 21, 28, 13), [], rfl, rfl, by decide, by decide, ⟨by decide, by decide⟩, rfl, rfl, (fun t ht k hk => by
  have := hk_132_0_c t ht
  rcases hk with e | e
  · rw [e] at this
    exact of_decide_eq_true this
  · rw [e] at this
    exact of_decide_eq_true this), List.mem_append_right _ (List.mem_of_getElem? (i := 234) (by decide +kernel)), fun w hw => by rw [List.mem_singleton.mp hw]; exact ⟨by decide, 2, by decide, by decide, List.mem_append_right _ (List.mem_of_getElem? (i := 457) (by decide +kernel))⟩, 2, Or.inr ⟨6, by decide +kernel, by decide +kernel, rfl⟩, by decide +kernel, by decide +kernel⟩
set_option maxRecDepth 100000 in
theorem hk_133_1_c : ∀ t ∈ ab_L 133, (match t.2.1 with
    | .invokevirtual _ => decide (t.1 < 8)
    | .invokestatic _ => decide (t.1 < 8)
    | _ => true) = true := by decide +kernel
theorem hk_133_1 : ab_hok 133 1 1 := ⟨[], (0, 8, 11, 15), [], rfl, rfl, by decide, by decide, ⟨by decide, by decide⟩, rfl, rfl, (fun t ht k hk => by
  have := hk_133_1_c t ht
  rcases hk with e | e
  · rw [e] at this
    exact of_decide_eq_true this
  · rw [e] at this
    exact of_decide_eq_true this), List.mem_append_right _ (List.mem_of_getElem? (i := 235) (by decide +kernel)), fun w hw => absurd hw List.not_mem_nil, 1, Or.inl ⟨2, by decide +kernel, by decide +kernel, rfl⟩, by decide +kernel, by decide +kernel⟩
set_option maxRecDepth 100000 in
theorem hk_134_1_c : ∀ t ∈ ab_L 134, (match t.2.1 with
    | .invokevirtual _ => decide (t.1 < 9)
    | .invokestatic _ => decide (t.1 < 9)
    | _ => true) = true := by decide +kernel
theorem hk_134_1 : ab_hok 134 1 1 := ⟨[], (0, 9, 12, 15), [(0, 9, 15, 13)], rfl, rfl, by decide, by decide, ⟨by decide, by decide⟩, rfl, rfl, (fun t ht k hk => by
  have := hk_134_1_c t ht
  rcases hk with e | e
  · rw [e] at this
    exact of_decide_eq_true this
  · rw [e] at this
    exact of_decide_eq_true this), List.mem_append_right _ (List.mem_of_getElem? (i := 235) (by decide +kernel)), fun w hw => absurd hw List.not_mem_nil, 1, Or.inl ⟨3, by decide +kernel, by decide +kernel, rfl⟩, by decide +kernel, by decide +kernel⟩
set_option maxRecDepth 100000 in
theorem hk_134_0_c : ∀ t ∈ ab_L 134, (match t.2.1 with
    | .invokevirtual _ => decide (t.1 < 9)
    | .invokestatic _ => decide (t.1 < 9)
    | _ => true) = true := by decide +kernel
theorem hk_134_0 : ab_hok 134 0 2 := ⟨[(0, 9, 12, 15)], (0, 9, 15, 13), [], rfl, rfl, by decide, by decide, ⟨by decide, by decide⟩, rfl, rfl, (fun t ht k hk => by
  have := hk_134_0_c t ht
  rcases hk with e | e
  · rw [e] at this
    exact of_decide_eq_true this
  · rw [e] at this
    exact of_decide_eq_true this), List.mem_append_right _ (List.mem_of_getElem? (i := 234) (by decide +kernel)), fun w hw => by rw [List.mem_singleton.mp hw]; exact ⟨by decide, 1, by decide, by decide, List.mem_append_right _ (List.mem_of_getElem? (i := 235) (by decide +kernel))⟩, 1, Or.inl ⟨3, by decide +kernel, by decide +kernel, rfl⟩, by decide +kernel, by decide +kernel⟩
set_option maxRecDepth 100000 in
theorem hk_135_2_c : ∀ t ∈ ab_L 135, (match t.2.1 with
    | .invokevirtual _ => decide (t.1 < 10)
    | .invokestatic _ => decide (t.1 < 10)
    | _ => true) = true := by decide +kernel
theorem hk_135_2 : ab_hok 135 2 1 := ⟨[], (0, 10, 13, 27), [(0, 10, 17, 13)], rfl, rfl, by decide, by decide, ⟨by decide, by decide⟩, rfl, rfl, (fun t ht k hk => by
  have := hk_135_2_c t ht
  rcases hk with e | e
  · rw [e] at this
    exact of_decide_eq_true this
  · rw [e] at this
    exact of_decide_eq_true this), List.mem_append_right _ (List.mem_of_getElem? (i := 457) (by decide +kernel)), fun w hw => absurd hw List.not_mem_nil, 2, Or.inr ⟨4, by decide +kernel, by decide +kernel, rfl⟩, by decide +kernel, by decide +kernel⟩
set_option maxRecDepth 100000 in
theorem hk_135_0_c : ∀ t ∈ ab_L 135, (match t.2.1 with
    | .invokevirtual _ => decide (t.1 < 10)
    | .invokestatic _ => decide (t.1 < 10)
    | _ => true) = true := by decide +kernel
theorem hk_135_0 : ab_hok 135 0 2 := ⟨[(0, 10, 13, 27)], (0, 10, 17, 13), [], rfl, rfl, by decide, by decide, ⟨by decide, by decide⟩, rfl, rfl, (fun t ht k hk => by
  have := hk_135_0_c t ht
  rcases hk with e | e
  · rw [e] at this
    exact of_decide_eq_true this
  · rw [e] at this
    exact of_decide_eq_true this), List.mem_append_right _ (List.mem_of_getElem? (i := 234) (by decide +kernel)), fun w hw => by rw [List.mem_singleton.mp hw]; exact ⟨by decide, 2, by decide, by decide, List.mem_append_right _ (List.mem_of_getElem? (i := 457) (by decide +kernel))⟩, 2, Or.inr ⟨4, by decide +kernel, by decide +kernel, rfl⟩, by decide +kernel, by decide +kernel⟩
theorem ab_hoks : ∀ q ∈ ab_HC, ab_hok q.1 q.2.1 q.2.2 := List.forall_mem_cons.mpr ⟨hk_127_0, List.forall_mem_cons.mpr ⟨hk_127_1, List.forall_mem_cons.mpr ⟨hk_128_1, List.forall_mem_cons.mpr ⟨hk_128_3, List.forall_mem_cons.mpr ⟨hk_129_2, List.forall_mem_cons.mpr ⟨hk_130_2, List.forall_mem_cons.mpr ⟨hk_130_0, List.forall_mem_cons.mpr ⟨hk_131_2, List.forall_mem_cons.mpr ⟨hk_131_0, List.forall_mem_cons.mpr ⟨hk_132_2, List.forall_mem_cons.mpr ⟨hk_132_0, List.forall_mem_cons.mpr ⟨hk_133_1, List.forall_mem_cons.mpr ⟨hk_134_1, List.forall_mem_cons.mpr ⟨hk_134_0, List.forall_mem_cons.mpr ⟨hk_135_2, List.forall_mem_cons.mpr ⟨hk_135_0, fun _ h => absurd h List.not_mem_nil⟩⟩⟩⟩⟩⟩⟩⟩⟩⟩⟩⟩⟩⟩⟩⟩
end Cat9
end
section
/-! THE MACHINE DOES WHAT THE PURE MACHINE DOES. -/
section Sound9
variable {l : Launch} {s0 : State} {a0 : Array Value} {ad : Nat → Nat} {dC : Nat → ClassId} {dI : Nat → Nat → Nat} {cA : Nat → ClassId} {N : Nat} {xs : Nat → Int32}
theorem ab_closed (hE : ab_E l s0 a0 ad dC dI cA N xs) : ab_Cl (ab_MM l s0 ad dC dI cA N xs) :=
  ⟨fun i n t ls st h o h' => so_1 hE i n t ls st h o h',
   fun i n t off ls st h o h' => so_goto i n t off ls st h o h',
   fun i n t c off x ls st h o h' => so_if i n t c off x ls st h o h',
   fun i n t c off x y ls st h o h' => so_icmp i n t c off x y ls st h o h',
   fun i n t d lo hi offs x ls st h o h' => so_sw i n t d lo hi offs x ls st h o h',
   fun i n t x ls h => so_iret i n t x ls h,
   fun i n t ls h => so_ret i n t ls h,
   fun i n j as rest ls h r h1 o h' => so_call hE i n j as rest ls h r h1 o h',
   fun i n j as rest ls h x h1 => so_callx hE i n j as rest ls h x h1,
   fun i n j as rest ls h x h1 c hc hm => so_callc hE i n j as rest ls h x h1 c hc (ab_hoks _ hm),
   fun i n x ls st h => so_thr hE i n x ls st h,
   fun i n t k m q d p s rest ls h o h' => so_cp hE i n t k m q d p s rest ls h o h'⟩
theorem ab_sound (hE : ab_E l s0 a0 ad dC dI cA N xs) {i n : Nat} {ls st : List ab_V} {h : ab_S} {o : ab_O} {h' : ab_S} (H : ab_lr i n ls st h o h') : ab_MM l s0 ad dC dI cA N xs i n ls st h o h' := H _ (ab_closed hE)
end Sound9
end
section
/-! Constructors: steps that make the world. The world so far goes in whole, and comes back whole. -/
section Ctor
/-- a new array of zeros -/
abbrev ct_ar (q : Nat) (cA : ClassId) (n : Nat) : Nat × va_E := (q, Sum.inl (cA, (n, Sum.inl (fun _ => 0))))
def ct_E (s0 : State) (a0 : Array Value) (dC : Nat → ClassId) (dI : Nat → Nat → Nat) (cA : Nat → ClassId) : Prop := (∀ w ∈ lw_tbl, w.before a0 s0 = true) ∧ va_K (dC, dI) ab_cls [(cA 0, .int), (cA 1, .boolean), (cA 2, .long)] s0
variable {l : Launch} {s0 : State} {a0 : Array Value} {dC : Nat → ClassId} {dI : Nat → Nat → Nat} {cA : Nat → ClassId}
theorem ct_E.word (hE : ct_E s0 a0 dC dI cA) {w : Cond} (hw : w ∈ lw_tbl) (hg : goodWord w = true) {s : State} (hW : s0.WarmedH s.vm) (a : Array Value) : w.before a s = true := word_at hW (good_of_word hg) (hE.1 w hw)
theorem ct_E.K (hE : ct_E s0 a0 dC dI cA) {s : State} (hW : s0.WarmedH s.vm) : va_K (dC, dI) ab_cls [(cA 0, .int), (cA 1, .boolean), (cA 2, .long)] s := va_K.moved hW.alike hE.2
theorem ct_E.lays (hE : ct_E s0 a0 dC dI cA) {s : State} (hW : s0.WarmedH s.vm) (a : Array Value) {c : Nat} (hc : c < 7) : ∀ w ∈ u_ws (ab_cs c) (ab_T c) (ab_N c), w.before a s = true := fun w hw => hE.word (ab_layok c (List.mem_range.mpr hc) w hw).1 (ab_layok c (List.mem_range.mpr hc) w hw).2 hW a
theorem ab_ty0 {c : Nat} (hc : c < 7) : ∀ a, a < ab_N c → parseFieldDescriptor (ab_T c a).2.2.1 = some (ab_tyf c a) := fun a ha => ab_tyok c (List.mem_range.mpr hc) a (List.mem_range.mpr ha)
theorem ab_nm0 {c : Nat} (hc : c < 7) : ∀ a, a < ab_N c → ∀ b, b < ab_N c → a ≠ b → (ab_T c a).2.1 ≠ (ab_T c b).2.1 := fun a ha b hb => ab_nmok c (List.mem_range.mpr hc) a (List.mem_range.mpr ha) b (List.mem_range.mpr hb)
variable {p : Program} {e : Env} {R : Room} {s : State} {m : MethodId} {args : Array Value} {below : List Frame} {meth : Method} {c : Code} {H : Heap} {locs : List Loc} {cells slots : Nat} {Q : State → Prop} {cc : ByteArray} {ls : Array Slot}
theorem ct_ra {t tk : Nat} {ty : FieldType} {cA' : ClassId} (hE : ct_E s0 a0 dC dI cA) (hW : s0.WarmedH s.vm) (htk : [(cA 0, FieldType.int), (cA 1, FieldType.boolean), (cA 2, FieldType.long)][tk]? = some (cA tk, ty)) (hK : va_K (dC, dI) ab_cls ([(cA 0, .int), (cA 1, .boolean), (cA 2, .long)] ++ [(cA', ty)]) s) : cA' = cA tk := by
  have h1 := (hK.2 3 (cA', ty) rfl).2
  have h2 := ((hE.K hW).2 tk _ htk).2
  have h3 : ∀ C, ty ≠ .object C := by
    intro C e
    subst e
    match tk, htk with
    | 0, h => cases h
    | 1, h => cases h
    | 2, h => cases h
    | k + 3, h => cases h
  cases ty with
  | object C => exact absurd rfl (h3 C)
  | _ => exact Option.some.inj (h1.symm.trans h2)
/-- aload_0; a length; newarray; putfield -/
theorem ct_arr (hE : ct_E s0 a0 dC dI cA) (hx : p.tables.exec = Jvm.exec) (hb : c.code = cc) {oc : Nat} (hoc : oc < 7) (hown : s.vm.findClass (ab_cs oc) = some m.cls) (hin : meth.name = "<init>") (hW : s0.WarmedH s.vm) (hsz : s0.heap.size ≤ s.heap.size)
    {ws : va_W} {k h0 f : Nat} {fs : List Value} (hg : ws[k]? = some (h0, .inr (oc, fs))) (hP : va_P (dC, dI) ab_cls ws H) (hD : va_D (fun q => s0.heap.size ≤ q) ws) (hS : va_S (fun q => s0.heap.size ≤ q) s.heap H locs) (hl0 : ls[0]? = some (.val (.ref h0)))
    {pc pc2 : Nat} {nn : Int32} {N' tk idx : Nat} {at9 : ArrayType} {ty : FieldType} (d0 : decode cc pc = .ok (.aload_n 0, 1))
    (hpush : W p l e R s m args below meth c H locs cells slots Q (F0 m pc2 ls [.int nn, .ref h0]) → W p l e R s m args below meth c H locs cells slots Q (F0 m (pc + 1) ls [.ref h0]))
    (d2 : decode cc pc2 = .ok (.newarray at9, 2)) (d3 : decode cc (pc2 + 2) = .ok (.putfield idx, 3)) (htk : [(cA 0, FieldType.int), (cA 1, FieldType.boolean), (cA 2, FieldType.long)][tk]? = some (cA tk, ty)) (hty : newarray.typeOf at9 = ty) (hdef : defaultValue ty = .int 0) (harr : Cond.arrayClass ty ∈ lw_tbl)
    (hn : ¬ nn < 0) (hN : nn.toNatClampNeg = N') (hbytes : N' * componentBytes ty ≤ 536870912) (hcells : cells + 1 ≤ R.cells) (hslots : slots + N' ≤ R.slots)
    (hf : f < ab_N oc) (hff : f < fs.length) (hfin : (ab_T oc f).2.2.2 = true) (hlk : Cond.fieldLink (ab_cs oc) idx (ab_cs oc) (ab_T oc f).2.1 (ab_T oc f).2.2.1 ∈ lw_tbl) (hnr : ∀ q, narrow (ab_tyf oc f) (.ref q) = .ref q) (hfi : ∀ q, fits (ab_tyf oc f) (.ref q) = true)
    (kk : ∀ (q : Nat) (H1 : Heap) (locs1 : List Loc), va_P (dC, dI) ab_cls ((ws ++ [ct_ar q (cA tk) N']).set k (h0, .inr (oc, fs.set f (.ref q)))) H1 → va_D (fun q => s0.heap.size ≤ q) ((ws ++ [ct_ar q (cA tk) N']).set k (h0, .inr (oc, fs.set f (.ref q)))) → va_S (fun q => s0.heap.size ≤ q) s.heap H1 locs1 →
      W p l e R s m args below meth c H1 locs1 (cells + 1) (slots + N') Q (F0 m (pc2 + 5) ls [])) : W p l e R s m args below meth c H locs cells slots Q (F0 m pc ls []) := by
  refine lv_aload_n hx hb d0 rfl hl0 (hpush ?_)
  refine va_newa (a0 := (N', .inl (fun _ => 0))) hx hb (by rw [hty]; exact hE.word harr rfl hW args) hty (hE.K hW) hP hD hS (fun q hq => Nat.le_trans hsz hq) (fun cA => by rw [vp_cell_i, hdef]) hn hN hbytes hcells hslots d2 (fun q cA' H1 hK1 hP1 hD1 hS1 => ?_)
  have e1 := ct_ra (t := 0) hE hW htk hK1
  subst e1
  have hg1 : (ws ++ [ct_ar q (cA tk) N'])[k]? = some (h0, .inr (oc, fs)) := by
    rw [List.getElem?_append_left (List.getElem?_eq_some_iff.mp hg).1]
    exact hg
  exact va_putF hx hb (hE.lays hW args hoc) (fun w hw => hw) (ab_tyf oc) (ab_ty0 hoc) (ab_nm0 hoc) hown (hE.K hW) hP1 hD1 hS1 k hg1 (ab_cls_get hoc) f hf (hE.word hlk rfl hW args) (fun _ z => z) hfin hin rfl (ab_ty0 hoc f hf) (hnr q) (hfi q) hff d3 (fun H2 locs2 p2 d2 s2 => kk q H2 locs2 p2 d2 s2)
/-- aload_0; aload_j; putfield -/
theorem ct_ref (hE : ct_E s0 a0 dC dI cA) (hx : p.tables.exec = Jvm.exec) (hb : c.code = cc) {oc : Nat} (hoc : oc < 7) (hown : s.vm.findClass (ab_cs oc) = some m.cls) (hin : meth.name = "<init>") (hW : s0.WarmedH s.vm)
    {ws : va_W} {k h0 f r : Nat} {fs : List Value} (hg : ws[k]? = some (h0, .inr (oc, fs))) (hP : va_P (dC, dI) ab_cls ws H) (hD : va_D (fun q => s0.heap.size ≤ q) ws) (hS : va_S (fun q => s0.heap.size ≤ q) s.heap H locs) (hl0 : ls[0]? = some (.val (.ref h0))) {j : Fin 4} {j' : Nat} (hj : j.val = j') (hlj : ls[j']? = some (.val (.ref r)))
    {pc idx : Nat} (d0 : decode cc pc = .ok (.aload_n 0, 1)) (d1 : decode cc (pc + 1) = .ok (.aload_n j, 1)) (d2 : decode cc (pc + 1 + 1) = .ok (.putfield idx, 3))
    (hf : f < ab_N oc) (hff : f < fs.length) (hfin : (ab_T oc f).2.2.2 = true) (hlk : Cond.fieldLink (ab_cs oc) idx (ab_cs oc) (ab_T oc f).2.1 (ab_T oc f).2.2.1 ∈ lw_tbl) (hnr : ∀ q, narrow (ab_tyf oc f) (.ref q) = .ref q) (hfi : ∀ q, fits (ab_tyf oc f) (.ref q) = true)
    (kk : ∀ (H1 : Heap) (locs1 : List Loc), va_P (dC, dI) ab_cls (ws.set k (h0, .inr (oc, fs.set f (.ref r)))) H1 → va_D (fun q => s0.heap.size ≤ q) (ws.set k (h0, .inr (oc, fs.set f (.ref r)))) → va_S (fun q => s0.heap.size ≤ q) s.heap H1 locs1 →
      W p l e R s m args below meth c H1 locs1 cells slots Q (F0 m (pc + 1 + 1 + 3) ls [])) : W p l e R s m args below meth c H locs cells slots Q (F0 m pc ls []) := by
  refine lv_aload_n hx hb d0 rfl hl0 (lv_aload_n hx hb d1 hj hlj ?_)
  exact va_putF hx hb (hE.lays hW args hoc) (fun w hw => hw) (ab_tyf oc) (ab_ty0 hoc) (ab_nm0 hoc) hown (hE.K hW) hP hD hS k hg (ab_cls_get hoc) f hf (hE.word hlk rfl hW args) (fun _ z => z) hfin hin rfl (ab_ty0 hoc f hf) (hnr r) (hfi r) hff d2 (fun H2 locs2 p2 d2 s2 => kk H2 locs2 p2 d2 s2)
/-- aload_0; iconst; putfield of a number -/
theorem ct_int (hE : ct_E s0 a0 dC dI cA) (hx : p.tables.exec = Jvm.exec) (hb : c.code = cc) {oc : Nat} (hoc : oc < 7) (hown : s.vm.findClass (ab_cs oc) = some m.cls) (hW : s0.WarmedH s.vm)
    {ws : va_W} {k h0 f : Nat} {fs : List Value} (hg : ws[k]? = some (h0, .inr (oc, fs))) (hP : va_P (dC, dI) ab_cls ws H) (hD : va_D (fun q => s0.heap.size ≤ q) ws) (hS : va_S (fun q => s0.heap.size ≤ q) s.heap H locs) (hl0 : ls[0]? = some (.val (.ref h0)))
    {pc idx : Nat} {z : Int} (d0 : decode cc pc = .ok (.aload_n 0, 1)) (d1 : decode cc (pc + 1) = .ok (.iconst z, 1)) (d2 : decode cc (pc + 1 + 1) = .ok (.putfield idx, 3))
    (hf : f < ab_N oc) (hff : f < fs.length) (hfin : (ab_T oc f).2.2.2 = false) (hlk : Cond.fieldLink (ab_cs oc) idx (ab_cs oc) (ab_T oc f).2.1 (ab_T oc f).2.2.1 ∈ lw_tbl) (hnr : ab_tyf oc f = .int)
    (kk : ∀ (H1 : Heap) (locs1 : List Loc), va_P (dC, dI) ab_cls (ws.set k (h0, .inr (oc, fs.set f (.int (Int32.ofInt z))))) H1 → va_D (fun q => s0.heap.size ≤ q) (ws.set k (h0, .inr (oc, fs.set f (.int (Int32.ofInt z))))) → va_S (fun q => s0.heap.size ≤ q) s.heap H1 locs1 →
      W p l e R s m args below meth c H1 locs1 cells slots Q (F0 m (pc + 1 + 1 + 3) ls [])) : W p l e R s m args below meth c H locs cells slots Q (F0 m pc ls []) := by
  refine lv_aload_n hx hb d0 rfl hl0 (lv_iconst hx hb d1 rfl ?_)
  exact va_put hx hb (hE.lays hW args hoc) (fun w hw => hw) (ab_tyf oc) (ab_ty0 hoc) (ab_nm0 hoc) hown (hE.K hW) hP hD hS k hg (ab_cls_get hoc) f hf (hE.word hlk rfl hW args) (fun _ z => z) hfin (ab_ty0 hoc f hf) (by rw [hnr]; rfl) (by rw [hnr]; rfl) hff d2 (fun H2 locs2 p2 d2 s2 => kk H2 locs2 p2 d2 s2)
/-- a constructor's start and end -/
def ct_P (s0 : State) (dC : Nat → ClassId) (dI : Nat → Nat → Nat) (as : List Value) (ws : va_W) : Array Value → State → Prop := fun a U =>
  a = as.toArray ∧ s0.WarmedH U.vm ∧ (s0.heap.size ≤ U.heap.size) ∧ va_P (dC, dI) ab_cls ws U.heap ∧ va_D (fun q => s0.heap.size ≤ q) ws
def ct_Q (s0 : State) (dC : Nat → ClassId) (dI : Nat → Nat → Nat) (post : va_W → Prop) : Array Value → State → Outcome → State → Prop := fun _ st oc t =>
  oc = .returned none ∧ (∃ ws', post ws' ∧ va_P (dC, dI) ab_cls ws' t.heap ∧ va_D (fun q => s0.heap.size ≤ q) ws') ∧ va_F (fun q => s0.heap.size ≤ q) st t
theorem ct_blind {as : List Value} {ws : va_W} : FrameBlind (ct_P s0 dC dI as ws) := fun _ _ _ _ q => q
theorem ct_call {mc ms pc : Nat} {st0 rest : List Value} {a : Array Value} {post : va_W → Prop} (hr : va_Run p l e R s m args below meth c H locs cells slots mc ms (F0 m pc ls st0) rest (ct_Q s0 dC dI post a) (fun q => s0.heap.size ≤ q)) (hS : va_S (fun q => s0.heap.size ≤ q) s.heap H locs)
    (kk : ∀ (ws' : va_W) (H1 : Heap) (locs1 : List Loc), post ws' → va_P (dC, dI) ab_cls ws' H1 → va_D (fun q => s0.heap.size ≤ q) ws' → va_S (fun q => s0.heap.size ≤ q) s.heap H1 locs1 → W p l e R s m args below meth c H1 locs1 (cells + mc) (slots + ms) Q (F0 m (pc + 3) ls rest)) : W p l e R s m args below meth c H locs cells slots Q (F0 m pc ls st0) := by
  intro T hT X
  obtain ⟨v, st₀, t, T', L, h0, X', hL, e1, e2, ⟨ev, ⟨ws', hpo, hP1, hD1⟩, hF⟩, st⟩ := hr T hT X
  have hv : v = none := Outcome.returned.inj ev
  subst hv
  obtain ⟨t2, a1, b1⟩ := kk ws' T'.heap (locs ++ L) hpo (by rw [e1]; exact hP1) hD1 (va_S.later hS h0 e1 hF hL) T' rfl X'
  exact ⟨t2, st t2 a1, b1⟩
end Ctor
end
section
/-! Constructors, by program (wip/gen/ctor.py). -/
section Ctors
variable {l : Launch} {s0 : State} {a0 : Array Value} {dC : Nat → ClassId} {dI : Nat → Nat → Nat} {cA : Nat → ClassId}
theorem ct_g1 {L : va_W} {k : Nat} {x y z : Nat × va_E} (h : L[k]? = some x) : ((L ++ [y]).set k z)[k]? = some z := by
  have hk := (List.getElem?_eq_some_iff.mp h).1
  rw [List.getElem?_set, if_pos rfl, if_pos (by rw [List.length_append]; omega)]
theorem ct_g0 {L : va_W} {k : Nat} {x z : Nat × va_E} (h : L[k]? = some x) : (L.set k z)[k]? = some z := by
  have hk := (List.getElem?_eq_some_iff.mp h).1
  rw [List.getElem?_set, if_pos rfl, if_pos hk]
theorem ow_i : Cond.instanceMethod objectInit ∈ lw_tbl := List.mem_append_right _ (List.mem_of_getElem? (i := 23) (by decide +kernel))
theorem ow_c : Cond.code objectInit ⟨#[0xb1]⟩ 1 none ∈ lw_tbl := List.mem_append_right _ (List.mem_of_getElem? (i := 24) (by decide +kernel))
theorem aw_0 : Cond.arrayClass .int ∈ lw_tbl := List.mem_append_right _ (List.mem_of_getElem? (i := 60) (by decide +kernel))
theorem aw_1 : Cond.arrayClass .boolean ∈ lw_tbl := List.mem_append_right _ (List.mem_of_getElem? (i := 61) (by decide +kernel))
theorem aw_2 : Cond.arrayClass .long ∈ lw_tbl := List.mem_append_right _ (List.mem_of_getElem? (i := 953) (by decide +kernel))
theorem cn_0_d0 : decode prog_2_method_1_code 0 = .ok (.aload_n 0, 1) := by decide +kernel
theorem cn_0_d1 : decode prog_2_method_1_code 1 = .ok (.invokespecial 3, 3) := by decide +kernel
theorem cn_0_d4 : decode prog_2_method_1_code 4 = .ok (.aload_n 0, 1) := by decide +kernel
theorem cn_0_d5 : decode prog_2_method_1_code 5 = .ok (.sipush 500, 3) := by decide +kernel
theorem cn_0_d8 : decode prog_2_method_1_code 8 = .ok (.newarray .int, 2) := by decide +kernel
theorem cn_0_d10 : decode prog_2_method_1_code 10 = .ok (.putfield 9, 3) := by decide +kernel
theorem cn_0_d13 : decode prog_2_method_1_code 13 = .ok (.aload_n 0, 1) := by decide +kernel
theorem cn_0_d14 : decode prog_2_method_1_code 14 = .ok (.sipush 2250, 3) := by decide +kernel
theorem cn_0_d17 : decode prog_2_method_1_code 17 = .ok (.newarray .int, 2) := by decide +kernel
theorem cn_0_d19 : decode prog_2_method_1_code 19 = .ok (.putfield 15, 3) := by decide +kernel
theorem cn_0_d22 : decode prog_2_method_1_code 22 = .ok (.return_, 1) := by decide +kernel
theorem cn_0_o : Cond.methodLink (ab_cs 0) 3 objectInit ∈ lw_tbl := List.mem_append_right _ (List.mem_of_getElem? (i := 67) (by decide +kernel))
theorem cn_0_l9 : Cond.fieldLink (ab_cs 0) 9 (ab_cs 0) (ab_T 0 1).2.1 (ab_T 0 1).2.2.1 ∈ lw_tbl := List.mem_append_right _ (List.mem_of_getElem? (i := 72) (by decide +kernel))
theorem cn_0_l15 : Cond.fieldLink (ab_cs 0) 15 (ab_cs 0) (ab_T 0 2).2.1 (ab_T 0 2).2.2.1 ∈ lw_tbl := List.mem_append_right _ (List.mem_of_getElem? (i := 73) (by decide +kernel))
theorem cn_0_k : Cond.code ⟨"ParserProof$Automaton", "<init>", "()V"⟩ prog_2_method_1_code 1 none ∈ lw_tbl := List.mem_append_right _ (List.mem_of_getElem? (i := 66) (by decide +kernel))
set_option maxHeartbeats 4000000 in
set_option maxRecDepth 100000 in
theorem cn_0 (hE : ct_E s0 a0 dC dI cA) (ws : va_W) (k h0 : Nat) (hg : ws[k]? = some (h0, Sum.inr (0, [.int 0, .null, .null]))) : Met l ⟨"ParserProof$Automaton", "<init>", "()V"⟩ [Cond.code ⟨"ParserProof$Automaton", "<init>", "()V"⟩ prog_2_method_1_code 1 none] { frames := 1, cells := 2, slots := 2750, locals := 12 } (ct_P s0 dC dI [.ref h0] ws) (ct_Q s0 dC dI (fun ws' => ∃ q1 q2 : Nat, ws' = ((((ws ++ [ct_ar q1 (cA 0) 500]).set k (h0, Sum.inr (0, [.int 0, .ref q1, .null]))) ++ [ct_ar q2 (cA 0) 2250]).set k (h0, Sum.inr (0, [.int 0, .ref q1, .ref q2]))))) 2 2750 (fun q => s0.heap.size ≤ q) := by
  refine Met.ofW (cc := prog_2_method_1_code) (maxL := 1) (ret := none) (by decide) rfl ?_
  intro p e s m args below meth c s₁ B hml hv
  obtain ⟨rfl, hW0, hsz, hP, hD⟩ := hv
  have hx := B.exec
  have hb := B.bytes
  have hr := B.returns
  have hown : s.vm.findClass (ab_cs 0) = some m.cls := findClass_of_methodNamed B.named
  have hlocks := B.notSynchronized
  have hin : meth.name = "<init>" := (name_of_methodNamed B.named B.method).1
  have hS : va_S (fun q => s0.heap.size ≤ q) s.heap s.heap [] := va_S.rf
  have hl := lv_entry ([.ref h0]) (n := 1) (Nat.le_of_ble_eq_true rfl)
  rw [lg_entry_eq]
  generalize (lg_sl ([.ref h0]) ++ List.replicate (1 - (lg_sl ([.ref h0])).length) Slot.unset).toArray = ls at hl ⊢
  have hl : lv_has ls 1 [(0, .ref h0)] := hl
  refine lv_aload_n hx hb cn_0_d0 rfl (lv_at hl 0 rfl) ?_
  refine W.objInit hx hb hown (hE.word cn_0_o rfl hW0 _) (hE.word ow_i rfl hW0 _) (hE.word ow_c rfl hW0 _) rfl (by rw [hml]; exact hl.1) rfl cn_0_d1 (Nat.le_of_ble_eq_true rfl) (Nat.le_of_ble_eq_true rfl) ?_
  refine W.eq (g2 := F0 m 4 ls []) rfl ?_
  refine ct_arr (ws := ws) (k := k) (h0 := h0) (f := 1) (fs := [.int 0, .null, .null]) (tk := 0) (idx := 9) (N' := 500) hE hx hb (by decide) hown hin hW0 hsz hg hP hD hS (lv_at hl 0 rfl) cn_0_d4 (fun z => lv_sipush hx hb cn_0_d5 (v := 500) rfl z) cn_0_d8 cn_0_d10 rfl rfl rfl aw_0 (by decide) rfl (by decide) (Nat.le_of_ble_eq_true rfl) (Nat.le_of_ble_eq_true rfl) (Nat.le_of_ble_eq_true rfl) (Nat.le_of_ble_eq_true rfl) rfl cn_0_l9 (fun _ => rfl) (fun _ => rfl) (fun q1 H locs hP hD hS => ?_)
  have hg := ct_g1 (y := ct_ar q1 (cA 0) 500) (z := (h0, Sum.inr (0, [.int 0, .ref q1, .null]))) hg
  have hP : va_P (dC, dI) ab_cls ((ws ++ [ct_ar q1 (cA 0) 500]).set k (h0, Sum.inr (0, [.int 0, .ref q1, .null]))) H := hP
  have hD : va_D (fun q => s0.heap.size ≤ q) ((ws ++ [ct_ar q1 (cA 0) 500]).set k (h0, Sum.inr (0, [.int 0, .ref q1, .null]))) := hD
  refine ct_arr (ws := ((ws ++ [ct_ar q1 (cA 0) 500]).set k (h0, Sum.inr (0, [.int 0, .ref q1, .null])))) (k := k) (h0 := h0) (f := 2) (fs := [.int 0, .ref q1, .null]) (tk := 0) (idx := 15) (N' := 2250) hE hx hb (by decide) hown hin hW0 hsz hg hP hD hS (lv_at hl 0 rfl) cn_0_d13 (fun z => lv_sipush hx hb cn_0_d14 (v := 2250) rfl z) cn_0_d17 cn_0_d19 rfl rfl rfl aw_0 (by decide) rfl (by decide) (Nat.le_of_ble_eq_true rfl) (Nat.le_of_ble_eq_true rfl) (Nat.le_of_ble_eq_true rfl) (Nat.le_of_ble_eq_true rfl) rfl cn_0_l15 (fun _ => rfl) (fun _ => rfl) (fun q2 H locs hP hD hS => ?_)
  have hg := ct_g1 (y := ct_ar q2 (cA 0) 2250) (z := (h0, Sum.inr (0, [.int 0, .ref q1, .ref q2]))) hg
  have hP : va_P (dC, dI) ab_cls ((((ws ++ [ct_ar q1 (cA 0) 500]).set k (h0, Sum.inr (0, [.int 0, .ref q1, .null]))) ++ [ct_ar q2 (cA 0) 2250]).set k (h0, Sum.inr (0, [.int 0, .ref q1, .ref q2]))) H := hP
  have hD : va_D (fun q => s0.heap.size ≤ q) ((((ws ++ [ct_ar q1 (cA 0) 500]).set k (h0, Sum.inr (0, [.int 0, .ref q1, .null]))) ++ [ct_ar q2 (cA 0) 2250]).set k (h0, Sum.inr (0, [.int 0, .ref q1, .ref q2]))) := hD
  exact W.vret hx hb hr (fun t ht hW => ⟨rfl, ⟨_, ⟨q1, q2, rfl⟩, by rw [ht]; exact hP, hD⟩, hS.F ht⟩) hS.2.2 cn_0_d22
theorem cn_3_d0 : decode prog_5_method_1_code 0 = .ok (.aload_n 0, 1) := by decide +kernel
theorem cn_3_d1 : decode prog_5_method_1_code 1 = .ok (.invokespecial 3, 3) := by decide +kernel
theorem cn_3_d4 : decode prog_5_method_1_code 4 = .ok (.aload_n 0, 1) := by decide +kernel
theorem cn_3_d5 : decode prog_5_method_1_code 5 = .ok (.bipush 8, 2) := by decide +kernel
theorem cn_3_d7 : decode prog_5_method_1_code 7 = .ok (.newarray .int, 2) := by decide +kernel
theorem cn_3_d9 : decode prog_5_method_1_code 9 = .ok (.putfield 9, 3) := by decide +kernel
theorem cn_3_d12 : decode prog_5_method_1_code 12 = .ok (.aload_n 0, 1) := by decide +kernel
theorem cn_3_d13 : decode prog_5_method_1_code 13 = .ok (.bipush 9, 2) := by decide +kernel
theorem cn_3_d15 : decode prog_5_method_1_code 15 = .ok (.newarray .int, 2) := by decide +kernel
theorem cn_3_d17 : decode prog_5_method_1_code 17 = .ok (.putfield 15, 3) := by decide +kernel
theorem cn_3_d20 : decode prog_5_method_1_code 20 = .ok (.aload_n 0, 1) := by decide +kernel
theorem cn_3_d21 : decode prog_5_method_1_code 21 = .ok (.bipush 36, 2) := by decide +kernel
theorem cn_3_d23 : decode prog_5_method_1_code 23 = .ok (.newarray .int, 2) := by decide +kernel
theorem cn_3_d25 : decode prog_5_method_1_code 25 = .ok (.putfield 18, 3) := by decide +kernel
theorem cn_3_d28 : decode prog_5_method_1_code 28 = .ok (.aload_n 0, 1) := by decide +kernel
theorem cn_3_d29 : decode prog_5_method_1_code 29 = .ok (.iconst 4, 1) := by decide +kernel
theorem cn_3_d30 : decode prog_5_method_1_code 30 = .ok (.newarray .boolean, 2) := by decide +kernel
theorem cn_3_d32 : decode prog_5_method_1_code 32 = .ok (.putfield 21, 3) := by decide +kernel
theorem cn_3_d35 : decode prog_5_method_1_code 35 = .ok (.aload_n 0, 1) := by decide +kernel
theorem cn_3_d36 : decode prog_5_method_1_code 36 = .ok (.iconst 4, 1) := by decide +kernel
theorem cn_3_d37 : decode prog_5_method_1_code 37 = .ok (.newarray .int, 2) := by decide +kernel
theorem cn_3_d39 : decode prog_5_method_1_code 39 = .ok (.putfield 25, 3) := by decide +kernel
theorem cn_3_d42 : decode prog_5_method_1_code 42 = .ok (.return_, 1) := by decide +kernel
theorem cn_3_o : Cond.methodLink (ab_cs 3) 3 objectInit ∈ lw_tbl := List.mem_append_right _ (List.mem_of_getElem? (i := 30) (by decide +kernel))
theorem cn_3_l9 : Cond.fieldLink (ab_cs 3) 9 (ab_cs 3) (ab_T 3 1).2.1 (ab_T 3 1).2.2.1 ∈ lw_tbl := List.mem_append_right _ (List.mem_of_getElem? (i := 35) (by decide +kernel))
theorem cn_3_l15 : Cond.fieldLink (ab_cs 3) 15 (ab_cs 3) (ab_T 3 2).2.1 (ab_T 3 2).2.2.1 ∈ lw_tbl := List.mem_append_right _ (List.mem_of_getElem? (i := 39) (by decide +kernel))
theorem cn_3_l18 : Cond.fieldLink (ab_cs 3) 18 (ab_cs 3) (ab_T 3 3).2.1 (ab_T 3 3).2.2.1 ∈ lw_tbl := List.mem_append_right _ (List.mem_of_getElem? (i := 44) (by decide +kernel))
theorem cn_3_l21 : Cond.fieldLink (ab_cs 3) 21 (ab_cs 3) (ab_T 3 4).2.1 (ab_T 3 4).2.2.1 ∈ lw_tbl := List.mem_append_right _ (List.mem_of_getElem? (i := 45) (by decide +kernel))
theorem cn_3_l25 : Cond.fieldLink (ab_cs 3) 25 (ab_cs 3) (ab_T 3 5).2.1 (ab_T 3 5).2.2.1 ∈ lw_tbl := List.mem_append_right _ (List.mem_of_getElem? (i := 46) (by decide +kernel))
theorem cn_3_k : Cond.code ⟨"ParserProof$Grammar", "<init>", "()V"⟩ prog_5_method_1_code 1 none ∈ lw_tbl := List.mem_append_right _ (List.mem_of_getElem? (i := 29) (by decide +kernel))
set_option maxHeartbeats 4000000 in
set_option maxRecDepth 100000 in
theorem cn_3 (hE : ct_E s0 a0 dC dI cA) (ws : va_W) (k h0 : Nat) (hg : ws[k]? = some (h0, Sum.inr (3, [.int 0, .null, .null, .null, .null, .null]))) : Met l ⟨"ParserProof$Grammar", "<init>", "()V"⟩ [Cond.code ⟨"ParserProof$Grammar", "<init>", "()V"⟩ prog_5_method_1_code 1 none] { frames := 1, cells := 5, slots := 61, locals := 12 } (ct_P s0 dC dI [.ref h0] ws) (ct_Q s0 dC dI (fun ws' => ∃ q1 q2 q3 q4 q5 : Nat, ws' = ((((((((((ws ++ [ct_ar q1 (cA 0) 8]).set k (h0, Sum.inr (3, [.int 0, .ref q1, .null, .null, .null, .null]))) ++ [ct_ar q2 (cA 0) 9]).set k (h0, Sum.inr (3, [.int 0, .ref q1, .ref q2, .null, .null, .null]))) ++ [ct_ar q3 (cA 0) 36]).set k (h0, Sum.inr (3, [.int 0, .ref q1, .ref q2, .ref q3, .null, .null]))) ++ [ct_ar q4 (cA 1) 4]).set k (h0, Sum.inr (3, [.int 0, .ref q1, .ref q2, .ref q3, .ref q4, .null]))) ++ [ct_ar q5 (cA 0) 4]).set k (h0, Sum.inr (3, [.int 0, .ref q1, .ref q2, .ref q3, .ref q4, .ref q5]))))) 5 61 (fun q => s0.heap.size ≤ q) := by
  refine Met.ofW (cc := prog_5_method_1_code) (maxL := 1) (ret := none) (by decide) rfl ?_
  intro p e s m args below meth c s₁ B hml hv
  obtain ⟨rfl, hW0, hsz, hP, hD⟩ := hv
  have hx := B.exec
  have hb := B.bytes
  have hr := B.returns
  have hown : s.vm.findClass (ab_cs 3) = some m.cls := findClass_of_methodNamed B.named
  have hlocks := B.notSynchronized
  have hin : meth.name = "<init>" := (name_of_methodNamed B.named B.method).1
  have hS : va_S (fun q => s0.heap.size ≤ q) s.heap s.heap [] := va_S.rf
  have hl := lv_entry ([.ref h0]) (n := 1) (Nat.le_of_ble_eq_true rfl)
  rw [lg_entry_eq]
  generalize (lg_sl ([.ref h0]) ++ List.replicate (1 - (lg_sl ([.ref h0])).length) Slot.unset).toArray = ls at hl ⊢
  have hl : lv_has ls 1 [(0, .ref h0)] := hl
  refine lv_aload_n hx hb cn_3_d0 rfl (lv_at hl 0 rfl) ?_
  refine W.objInit hx hb hown (hE.word cn_3_o rfl hW0 _) (hE.word ow_i rfl hW0 _) (hE.word ow_c rfl hW0 _) rfl (by rw [hml]; exact hl.1) rfl cn_3_d1 (Nat.le_of_ble_eq_true rfl) (Nat.le_of_ble_eq_true rfl) ?_
  refine W.eq (g2 := F0 m 4 ls []) rfl ?_
  refine ct_arr (ws := ws) (k := k) (h0 := h0) (f := 1) (fs := [.int 0, .null, .null, .null, .null, .null]) (tk := 0) (idx := 9) (N' := 8) hE hx hb (by decide) hown hin hW0 hsz hg hP hD hS (lv_at hl 0 rfl) cn_3_d4 (fun z => lv_bipush hx hb cn_3_d5 (v := 8) rfl z) cn_3_d7 cn_3_d9 rfl rfl rfl aw_0 (by decide) rfl (by decide) (Nat.le_of_ble_eq_true rfl) (Nat.le_of_ble_eq_true rfl) (Nat.le_of_ble_eq_true rfl) (Nat.le_of_ble_eq_true rfl) rfl cn_3_l9 (fun _ => rfl) (fun _ => rfl) (fun q1 H locs hP hD hS => ?_)
  have hg := ct_g1 (y := ct_ar q1 (cA 0) 8) (z := (h0, Sum.inr (3, [.int 0, .ref q1, .null, .null, .null, .null]))) hg
  have hP : va_P (dC, dI) ab_cls ((ws ++ [ct_ar q1 (cA 0) 8]).set k (h0, Sum.inr (3, [.int 0, .ref q1, .null, .null, .null, .null]))) H := hP
  have hD : va_D (fun q => s0.heap.size ≤ q) ((ws ++ [ct_ar q1 (cA 0) 8]).set k (h0, Sum.inr (3, [.int 0, .ref q1, .null, .null, .null, .null]))) := hD
  refine ct_arr (ws := ((ws ++ [ct_ar q1 (cA 0) 8]).set k (h0, Sum.inr (3, [.int 0, .ref q1, .null, .null, .null, .null])))) (k := k) (h0 := h0) (f := 2) (fs := [.int 0, .ref q1, .null, .null, .null, .null]) (tk := 0) (idx := 15) (N' := 9) hE hx hb (by decide) hown hin hW0 hsz hg hP hD hS (lv_at hl 0 rfl) cn_3_d12 (fun z => lv_bipush hx hb cn_3_d13 (v := 9) rfl z) cn_3_d15 cn_3_d17 rfl rfl rfl aw_0 (by decide) rfl (by decide) (Nat.le_of_ble_eq_true rfl) (Nat.le_of_ble_eq_true rfl) (Nat.le_of_ble_eq_true rfl) (Nat.le_of_ble_eq_true rfl) rfl cn_3_l15 (fun _ => rfl) (fun _ => rfl) (fun q2 H locs hP hD hS => ?_)
  have hg := ct_g1 (y := ct_ar q2 (cA 0) 9) (z := (h0, Sum.inr (3, [.int 0, .ref q1, .ref q2, .null, .null, .null]))) hg
  have hP : va_P (dC, dI) ab_cls ((((ws ++ [ct_ar q1 (cA 0) 8]).set k (h0, Sum.inr (3, [.int 0, .ref q1, .null, .null, .null, .null]))) ++ [ct_ar q2 (cA 0) 9]).set k (h0, Sum.inr (3, [.int 0, .ref q1, .ref q2, .null, .null, .null]))) H := hP
  have hD : va_D (fun q => s0.heap.size ≤ q) ((((ws ++ [ct_ar q1 (cA 0) 8]).set k (h0, Sum.inr (3, [.int 0, .ref q1, .null, .null, .null, .null]))) ++ [ct_ar q2 (cA 0) 9]).set k (h0, Sum.inr (3, [.int 0, .ref q1, .ref q2, .null, .null, .null]))) := hD
  refine ct_arr (ws := ((((ws ++ [ct_ar q1 (cA 0) 8]).set k (h0, Sum.inr (3, [.int 0, .ref q1, .null, .null, .null, .null]))) ++ [ct_ar q2 (cA 0) 9]).set k (h0, Sum.inr (3, [.int 0, .ref q1, .ref q2, .null, .null, .null])))) (k := k) (h0 := h0) (f := 3) (fs := [.int 0, .ref q1, .ref q2, .null, .null, .null]) (tk := 0) (idx := 18) (N' := 36) hE hx hb (by decide) hown hin hW0 hsz hg hP hD hS (lv_at hl 0 rfl) cn_3_d20 (fun z => lv_bipush hx hb cn_3_d21 (v := 36) rfl z) cn_3_d23 cn_3_d25 rfl rfl rfl aw_0 (by decide) rfl (by decide) (Nat.le_of_ble_eq_true rfl) (Nat.le_of_ble_eq_true rfl) (Nat.le_of_ble_eq_true rfl) (Nat.le_of_ble_eq_true rfl) rfl cn_3_l18 (fun _ => rfl) (fun _ => rfl) (fun q3 H locs hP hD hS => ?_)
  have hg := ct_g1 (y := ct_ar q3 (cA 0) 36) (z := (h0, Sum.inr (3, [.int 0, .ref q1, .ref q2, .ref q3, .null, .null]))) hg
  have hP : va_P (dC, dI) ab_cls ((((((ws ++ [ct_ar q1 (cA 0) 8]).set k (h0, Sum.inr (3, [.int 0, .ref q1, .null, .null, .null, .null]))) ++ [ct_ar q2 (cA 0) 9]).set k (h0, Sum.inr (3, [.int 0, .ref q1, .ref q2, .null, .null, .null]))) ++ [ct_ar q3 (cA 0) 36]).set k (h0, Sum.inr (3, [.int 0, .ref q1, .ref q2, .ref q3, .null, .null]))) H := hP
  have hD : va_D (fun q => s0.heap.size ≤ q) ((((((ws ++ [ct_ar q1 (cA 0) 8]).set k (h0, Sum.inr (3, [.int 0, .ref q1, .null, .null, .null, .null]))) ++ [ct_ar q2 (cA 0) 9]).set k (h0, Sum.inr (3, [.int 0, .ref q1, .ref q2, .null, .null, .null]))) ++ [ct_ar q3 (cA 0) 36]).set k (h0, Sum.inr (3, [.int 0, .ref q1, .ref q2, .ref q3, .null, .null]))) := hD
  refine ct_arr (ws := ((((((ws ++ [ct_ar q1 (cA 0) 8]).set k (h0, Sum.inr (3, [.int 0, .ref q1, .null, .null, .null, .null]))) ++ [ct_ar q2 (cA 0) 9]).set k (h0, Sum.inr (3, [.int 0, .ref q1, .ref q2, .null, .null, .null]))) ++ [ct_ar q3 (cA 0) 36]).set k (h0, Sum.inr (3, [.int 0, .ref q1, .ref q2, .ref q3, .null, .null])))) (k := k) (h0 := h0) (f := 4) (fs := [.int 0, .ref q1, .ref q2, .ref q3, .null, .null]) (tk := 1) (idx := 21) (N' := 4) hE hx hb (by decide) hown hin hW0 hsz hg hP hD hS (lv_at hl 0 rfl) cn_3_d28 (fun z => lv_iconst hx hb cn_3_d29 (v := 4) rfl z) cn_3_d30 cn_3_d32 rfl rfl rfl aw_1 (by decide) rfl (by decide) (Nat.le_of_ble_eq_true rfl) (Nat.le_of_ble_eq_true rfl) (Nat.le_of_ble_eq_true rfl) (Nat.le_of_ble_eq_true rfl) rfl cn_3_l21 (fun _ => rfl) (fun _ => rfl) (fun q4 H locs hP hD hS => ?_)
  have hg := ct_g1 (y := ct_ar q4 (cA 1) 4) (z := (h0, Sum.inr (3, [.int 0, .ref q1, .ref q2, .ref q3, .ref q4, .null]))) hg
  have hP : va_P (dC, dI) ab_cls ((((((((ws ++ [ct_ar q1 (cA 0) 8]).set k (h0, Sum.inr (3, [.int 0, .ref q1, .null, .null, .null, .null]))) ++ [ct_ar q2 (cA 0) 9]).set k (h0, Sum.inr (3, [.int 0, .ref q1, .ref q2, .null, .null, .null]))) ++ [ct_ar q3 (cA 0) 36]).set k (h0, Sum.inr (3, [.int 0, .ref q1, .ref q2, .ref q3, .null, .null]))) ++ [ct_ar q4 (cA 1) 4]).set k (h0, Sum.inr (3, [.int 0, .ref q1, .ref q2, .ref q3, .ref q4, .null]))) H := hP
  have hD : va_D (fun q => s0.heap.size ≤ q) ((((((((ws ++ [ct_ar q1 (cA 0) 8]).set k (h0, Sum.inr (3, [.int 0, .ref q1, .null, .null, .null, .null]))) ++ [ct_ar q2 (cA 0) 9]).set k (h0, Sum.inr (3, [.int 0, .ref q1, .ref q2, .null, .null, .null]))) ++ [ct_ar q3 (cA 0) 36]).set k (h0, Sum.inr (3, [.int 0, .ref q1, .ref q2, .ref q3, .null, .null]))) ++ [ct_ar q4 (cA 1) 4]).set k (h0, Sum.inr (3, [.int 0, .ref q1, .ref q2, .ref q3, .ref q4, .null]))) := hD
  refine ct_arr (ws := ((((((((ws ++ [ct_ar q1 (cA 0) 8]).set k (h0, Sum.inr (3, [.int 0, .ref q1, .null, .null, .null, .null]))) ++ [ct_ar q2 (cA 0) 9]).set k (h0, Sum.inr (3, [.int 0, .ref q1, .ref q2, .null, .null, .null]))) ++ [ct_ar q3 (cA 0) 36]).set k (h0, Sum.inr (3, [.int 0, .ref q1, .ref q2, .ref q3, .null, .null]))) ++ [ct_ar q4 (cA 1) 4]).set k (h0, Sum.inr (3, [.int 0, .ref q1, .ref q2, .ref q3, .ref q4, .null])))) (k := k) (h0 := h0) (f := 5) (fs := [.int 0, .ref q1, .ref q2, .ref q3, .ref q4, .null]) (tk := 0) (idx := 25) (N' := 4) hE hx hb (by decide) hown hin hW0 hsz hg hP hD hS (lv_at hl 0 rfl) cn_3_d35 (fun z => lv_iconst hx hb cn_3_d36 (v := 4) rfl z) cn_3_d37 cn_3_d39 rfl rfl rfl aw_0 (by decide) rfl (by decide) (Nat.le_of_ble_eq_true rfl) (Nat.le_of_ble_eq_true rfl) (Nat.le_of_ble_eq_true rfl) (Nat.le_of_ble_eq_true rfl) rfl cn_3_l25 (fun _ => rfl) (fun _ => rfl) (fun q5 H locs hP hD hS => ?_)
  have hg := ct_g1 (y := ct_ar q5 (cA 0) 4) (z := (h0, Sum.inr (3, [.int 0, .ref q1, .ref q2, .ref q3, .ref q4, .ref q5]))) hg
  have hP : va_P (dC, dI) ab_cls ((((((((((ws ++ [ct_ar q1 (cA 0) 8]).set k (h0, Sum.inr (3, [.int 0, .ref q1, .null, .null, .null, .null]))) ++ [ct_ar q2 (cA 0) 9]).set k (h0, Sum.inr (3, [.int 0, .ref q1, .ref q2, .null, .null, .null]))) ++ [ct_ar q3 (cA 0) 36]).set k (h0, Sum.inr (3, [.int 0, .ref q1, .ref q2, .ref q3, .null, .null]))) ++ [ct_ar q4 (cA 1) 4]).set k (h0, Sum.inr (3, [.int 0, .ref q1, .ref q2, .ref q3, .ref q4, .null]))) ++ [ct_ar q5 (cA 0) 4]).set k (h0, Sum.inr (3, [.int 0, .ref q1, .ref q2, .ref q3, .ref q4, .ref q5]))) H := hP
  have hD : va_D (fun q => s0.heap.size ≤ q) ((((((((((ws ++ [ct_ar q1 (cA 0) 8]).set k (h0, Sum.inr (3, [.int 0, .ref q1, .null, .null, .null, .null]))) ++ [ct_ar q2 (cA 0) 9]).set k (h0, Sum.inr (3, [.int 0, .ref q1, .ref q2, .null, .null, .null]))) ++ [ct_ar q3 (cA 0) 36]).set k (h0, Sum.inr (3, [.int 0, .ref q1, .ref q2, .ref q3, .null, .null]))) ++ [ct_ar q4 (cA 1) 4]).set k (h0, Sum.inr (3, [.int 0, .ref q1, .ref q2, .ref q3, .ref q4, .null]))) ++ [ct_ar q5 (cA 0) 4]).set k (h0, Sum.inr (3, [.int 0, .ref q1, .ref q2, .ref q3, .ref q4, .ref q5]))) := hD
  exact W.vret hx hb hr (fun t ht hW => ⟨rfl, ⟨_, ⟨q1, q2, q3, q4, q5, rfl⟩, by rw [ht]; exact hP, hD⟩, hS.F ht⟩) hS.2.2 cn_3_d42
theorem cn_1_d0 : decode prog_3_method_1_code 0 = .ok (.aload_n 0, 1) := by decide +kernel
theorem cn_1_d1 : decode prog_3_method_1_code 1 = .ok (.invokespecial 3, 3) := by decide +kernel
theorem cn_1_d4 : decode prog_3_method_1_code 4 = .ok (.aload_n 0, 1) := by decide +kernel
theorem cn_1_d5 : decode prog_3_method_1_code 5 = .ok (.bipush 45, 2) := by decide +kernel
theorem cn_1_d7 : decode prog_3_method_1_code 7 = .ok (.newarray .int, 2) := by decide +kernel
theorem cn_1_d9 : decode prog_3_method_1_code 9 = .ok (.putfield 9, 3) := by decide +kernel
theorem cn_1_d12 : decode prog_3_method_1_code 12 = .ok (.aload_n 0, 1) := by decide +kernel
theorem cn_1_d13 : decode prog_3_method_1_code 13 = .ok (.aload_n 1, 1) := by decide +kernel
theorem cn_1_d14 : decode prog_3_method_1_code 14 = .ok (.putfield 15, 3) := by decide +kernel
theorem cn_1_d17 : decode prog_3_method_1_code 17 = .ok (.aload_n 0, 1) := by decide +kernel
theorem cn_1_d18 : decode prog_3_method_1_code 18 = .ok (.aload_n 2, 1) := by decide +kernel
theorem cn_1_d19 : decode prog_3_method_1_code 19 = .ok (.putfield 19, 3) := by decide +kernel
theorem cn_1_d22 : decode prog_3_method_1_code 22 = .ok (.return_, 1) := by decide +kernel
theorem cn_1_o : Cond.methodLink (ab_cs 1) 3 objectInit ∈ lw_tbl := List.mem_append_right _ (List.mem_of_getElem? (i := 86) (by decide +kernel))
theorem cn_1_l9 : Cond.fieldLink (ab_cs 1) 9 (ab_cs 1) (ab_T 1 2).2.1 (ab_T 1 2).2.2.1 ∈ lw_tbl := List.mem_append_right _ (List.mem_of_getElem? (i := 89) (by decide +kernel))
theorem cn_1_l15 : Cond.fieldLink (ab_cs 1) 15 (ab_cs 1) (ab_T 1 0).2.1 (ab_T 1 0).2.2.1 ∈ lw_tbl := List.mem_append_right _ (List.mem_of_getElem? (i := 87) (by decide +kernel))
theorem cn_1_l19 : Cond.fieldLink (ab_cs 1) 19 (ab_cs 1) (ab_T 1 1).2.1 (ab_T 1 1).2.2.1 ∈ lw_tbl := List.mem_append_right _ (List.mem_of_getElem? (i := 88) (by decide +kernel))
theorem cn_1_k : Cond.code ⟨"ParserProof$Builder", "<init>", "(LParserProof$Grammar;LParserProof$Automaton;)V"⟩ prog_3_method_1_code 3 none ∈ lw_tbl := List.mem_append_right _ (List.mem_of_getElem? (i := 85) (by decide +kernel))
set_option maxHeartbeats 4000000 in
set_option maxRecDepth 100000 in
theorem cn_1 (hE : ct_E s0 a0 dC dI cA) (ws : va_W) (k h0 : Nat) (r1 r2 : Nat) (hg : ws[k]? = some (h0, Sum.inr (1, [.null, .null, .null]))) : Met l ⟨"ParserProof$Builder", "<init>", "(LParserProof$Grammar;LParserProof$Automaton;)V"⟩ [Cond.code ⟨"ParserProof$Builder", "<init>", "(LParserProof$Grammar;LParserProof$Automaton;)V"⟩ prog_3_method_1_code 3 none] { frames := 1, cells := 1, slots := 45, locals := 12 } (ct_P s0 dC dI [.ref h0, .ref r1, .ref r2] ws) (ct_Q s0 dC dI (fun ws' => ∃ q1 : Nat, ws' = ((((ws ++ [ct_ar q1 (cA 0) 45]).set k (h0, Sum.inr (1, [.null, .null, .ref q1]))).set k (h0, Sum.inr (1, [.ref r1, .null, .ref q1]))).set k (h0, Sum.inr (1, [.ref r1, .ref r2, .ref q1]))))) 1 45 (fun q => s0.heap.size ≤ q) := by
  refine Met.ofW (cc := prog_3_method_1_code) (maxL := 3) (ret := none) (by decide) rfl ?_
  intro p e s m args below meth c s₁ B hml hv
  obtain ⟨rfl, hW0, hsz, hP, hD⟩ := hv
  have hx := B.exec
  have hb := B.bytes
  have hr := B.returns
  have hown : s.vm.findClass (ab_cs 1) = some m.cls := findClass_of_methodNamed B.named
  have hlocks := B.notSynchronized
  have hin : meth.name = "<init>" := (name_of_methodNamed B.named B.method).1
  have hS : va_S (fun q => s0.heap.size ≤ q) s.heap s.heap [] := va_S.rf
  have hl := lv_entry ([.ref h0, .ref r1, .ref r2]) (n := 3) (Nat.le_of_ble_eq_true rfl)
  rw [lg_entry_eq]
  generalize (lg_sl ([.ref h0, .ref r1, .ref r2]) ++ List.replicate (3 - (lg_sl ([.ref h0, .ref r1, .ref r2])).length) Slot.unset).toArray = ls at hl ⊢
  have hl : lv_has ls 3 [(0, .ref h0), (1, .ref r1), (2, .ref r2)] := hl
  refine lv_aload_n hx hb cn_1_d0 rfl (lv_at hl 0 rfl) ?_
  refine W.objInit hx hb hown (hE.word cn_1_o rfl hW0 _) (hE.word ow_i rfl hW0 _) (hE.word ow_c rfl hW0 _) rfl (by rw [hml]; exact hl.1) rfl cn_1_d1 (Nat.le_of_ble_eq_true rfl) (Nat.le_of_ble_eq_true rfl) ?_
  refine W.eq (g2 := F0 m 4 ls []) rfl ?_
  refine ct_arr (ws := ws) (k := k) (h0 := h0) (f := 2) (fs := [.null, .null, .null]) (tk := 0) (idx := 9) (N' := 45) hE hx hb (by decide) hown hin hW0 hsz hg hP hD hS (lv_at hl 0 rfl) cn_1_d4 (fun z => lv_bipush hx hb cn_1_d5 (v := 45) rfl z) cn_1_d7 cn_1_d9 rfl rfl rfl aw_0 (by decide) rfl (by decide) (Nat.le_of_ble_eq_true rfl) (Nat.le_of_ble_eq_true rfl) (Nat.le_of_ble_eq_true rfl) (Nat.le_of_ble_eq_true rfl) rfl cn_1_l9 (fun _ => rfl) (fun _ => rfl) (fun q1 H locs hP hD hS => ?_)
  have hg := ct_g1 (y := ct_ar q1 (cA 0) 45) (z := (h0, Sum.inr (1, [.null, .null, .ref q1]))) hg
  have hP : va_P (dC, dI) ab_cls ((ws ++ [ct_ar q1 (cA 0) 45]).set k (h0, Sum.inr (1, [.null, .null, .ref q1]))) H := hP
  have hD : va_D (fun q => s0.heap.size ≤ q) ((ws ++ [ct_ar q1 (cA 0) 45]).set k (h0, Sum.inr (1, [.null, .null, .ref q1]))) := hD
  refine ct_ref (ws := ((ws ++ [ct_ar q1 (cA 0) 45]).set k (h0, Sum.inr (1, [.null, .null, .ref q1])))) (k := k) (h0 := h0) (f := 0) (r := r1) (fs := [.null, .null, .ref q1]) (j' := 1) (idx := 15) hE hx hb (by decide) hown hin hW0 hg hP hD hS (lv_at hl 0 rfl) rfl (lv_at hl 1 rfl) cn_1_d12 cn_1_d13 cn_1_d14 (Nat.le_of_ble_eq_true rfl) (Nat.le_of_ble_eq_true rfl) rfl cn_1_l15 (fun _ => rfl) (fun _ => rfl) (fun H locs hP hD hS => ?_)
  have hg := ct_g0 (z := (h0, Sum.inr (1, [.ref r1, .null, .ref q1]))) hg
  have hP : va_P (dC, dI) ab_cls (((ws ++ [ct_ar q1 (cA 0) 45]).set k (h0, Sum.inr (1, [.null, .null, .ref q1]))).set k (h0, Sum.inr (1, [.ref r1, .null, .ref q1]))) H := hP
  have hD : va_D (fun q => s0.heap.size ≤ q) (((ws ++ [ct_ar q1 (cA 0) 45]).set k (h0, Sum.inr (1, [.null, .null, .ref q1]))).set k (h0, Sum.inr (1, [.ref r1, .null, .ref q1]))) := hD
  refine ct_ref (ws := (((ws ++ [ct_ar q1 (cA 0) 45]).set k (h0, Sum.inr (1, [.null, .null, .ref q1]))).set k (h0, Sum.inr (1, [.ref r1, .null, .ref q1])))) (k := k) (h0 := h0) (f := 1) (r := r2) (fs := [.ref r1, .null, .ref q1]) (j' := 2) (idx := 19) hE hx hb (by decide) hown hin hW0 hg hP hD hS (lv_at hl 0 rfl) rfl (lv_at hl 2 rfl) cn_1_d17 cn_1_d18 cn_1_d19 (Nat.le_of_ble_eq_true rfl) (Nat.le_of_ble_eq_true rfl) rfl cn_1_l19 (fun _ => rfl) (fun _ => rfl) (fun H locs hP hD hS => ?_)
  have hg := ct_g0 (z := (h0, Sum.inr (1, [.ref r1, .ref r2, .ref q1]))) hg
  have hP : va_P (dC, dI) ab_cls ((((ws ++ [ct_ar q1 (cA 0) 45]).set k (h0, Sum.inr (1, [.null, .null, .ref q1]))).set k (h0, Sum.inr (1, [.ref r1, .null, .ref q1]))).set k (h0, Sum.inr (1, [.ref r1, .ref r2, .ref q1]))) H := hP
  have hD : va_D (fun q => s0.heap.size ≤ q) ((((ws ++ [ct_ar q1 (cA 0) 45]).set k (h0, Sum.inr (1, [.null, .null, .ref q1]))).set k (h0, Sum.inr (1, [.ref r1, .null, .ref q1]))).set k (h0, Sum.inr (1, [.ref r1, .ref r2, .ref q1]))) := hD
  exact W.vret hx hb hr (fun t ht hW => ⟨rfl, ⟨_, ⟨q1, rfl⟩, by rw [ht]; exact hP, hD⟩, hS.F ht⟩) hS.2.2 cn_1_d22
theorem cn_4_d0 : decode prog_6_method_1_code 0 = .ok (.aload_n 0, 1) := by decide +kernel
theorem cn_4_d1 : decode prog_6_method_1_code 1 = .ok (.invokespecial 3, 3) := by decide +kernel
theorem cn_4_d4 : decode prog_6_method_1_code 4 = .ok (.aload_n 0, 1) := by decide +kernel
theorem cn_4_d5 : decode prog_6_method_1_code 5 = .ok (.bipush 20, 2) := by decide +kernel
theorem cn_4_d7 : decode prog_6_method_1_code 7 = .ok (.newarray .int, 2) := by decide +kernel
theorem cn_4_d9 : decode prog_6_method_1_code 9 = .ok (.putfield 9, 3) := by decide +kernel
theorem cn_4_d12 : decode prog_6_method_1_code 12 = .ok (.aload_n 0, 1) := by decide +kernel
theorem cn_4_d13 : decode prog_6_method_1_code 13 = .ok (.bipush 61, 2) := by decide +kernel
theorem cn_4_d15 : decode prog_6_method_1_code 15 = .ok (.newarray .int, 2) := by decide +kernel
theorem cn_4_d17 : decode prog_6_method_1_code 17 = .ok (.putfield 15, 3) := by decide +kernel
theorem cn_4_d20 : decode prog_6_method_1_code 20 = .ok (.aload_n 0, 1) := by decide +kernel
theorem cn_4_d21 : decode prog_6_method_1_code 21 = .ok (.bipush 61, 2) := by decide +kernel
theorem cn_4_d23 : decode prog_6_method_1_code 23 = .ok (.newarray .int, 2) := by decide +kernel
theorem cn_4_d25 : decode prog_6_method_1_code 25 = .ok (.putfield 18, 3) := by decide +kernel
theorem cn_4_d28 : decode prog_6_method_1_code 28 = .ok (.aload_n 0, 1) := by decide +kernel
theorem cn_4_d29 : decode prog_6_method_1_code 29 = .ok (.sipush 300, 3) := by decide +kernel
theorem cn_4_d32 : decode prog_6_method_1_code 32 = .ok (.newarray .int, 2) := by decide +kernel
theorem cn_4_d34 : decode prog_6_method_1_code 34 = .ok (.putfield 21, 3) := by decide +kernel
theorem cn_4_d37 : decode prog_6_method_1_code 37 = .ok (.aload_n 0, 1) := by decide +kernel
theorem cn_4_d38 : decode prog_6_method_1_code 38 = .ok (.aload_n 1, 1) := by decide +kernel
theorem cn_4_d39 : decode prog_6_method_1_code 39 = .ok (.putfield 24, 3) := by decide +kernel
theorem cn_4_d42 : decode prog_6_method_1_code 42 = .ok (.aload_n 0, 1) := by decide +kernel
theorem cn_4_d43 : decode prog_6_method_1_code 43 = .ok (.aload_n 2, 1) := by decide +kernel
theorem cn_4_d44 : decode prog_6_method_1_code 44 = .ok (.putfield 28, 3) := by decide +kernel
theorem cn_4_d47 : decode prog_6_method_1_code 47 = .ok (.return_, 1) := by decide +kernel
theorem cn_4_o : Cond.methodLink (ab_cs 4) 3 objectInit ∈ lw_tbl := List.mem_append_right _ (List.mem_of_getElem? (i := 121) (by decide +kernel))
theorem cn_4_l9 : Cond.fieldLink (ab_cs 4) 9 (ab_cs 4) (ab_T 4 2).2.1 (ab_T 4 2).2.2.1 ∈ lw_tbl := List.mem_append_right _ (List.mem_of_getElem? (i := 124) (by decide +kernel))
theorem cn_4_l15 : Cond.fieldLink (ab_cs 4) 15 (ab_cs 4) (ab_T 4 5).2.1 (ab_T 4 5).2.2.1 ∈ lw_tbl := List.mem_append_right _ (List.mem_of_getElem? (i := 128) (by decide +kernel))
theorem cn_4_l18 : Cond.fieldLink (ab_cs 4) 18 (ab_cs 4) (ab_T 4 6).2.1 (ab_T 4 6).2.2.1 ∈ lw_tbl := List.mem_append_right _ (List.mem_of_getElem? (i := 129) (by decide +kernel))
theorem cn_4_l21 : Cond.fieldLink (ab_cs 4) 21 (ab_cs 4) (ab_T 4 8).2.1 (ab_T 4 8).2.2.1 ∈ lw_tbl := List.mem_append_right _ (List.mem_of_getElem? (i := 132) (by decide +kernel))
theorem cn_4_l24 : Cond.fieldLink (ab_cs 4) 24 (ab_cs 4) (ab_T 4 0).2.1 (ab_T 4 0).2.2.1 ∈ lw_tbl := List.mem_append_right _ (List.mem_of_getElem? (i := 122) (by decide +kernel))
theorem cn_4_l28 : Cond.fieldLink (ab_cs 4) 28 (ab_cs 4) (ab_T 4 1).2.1 (ab_T 4 1).2.2.1 ∈ lw_tbl := List.mem_append_right _ (List.mem_of_getElem? (i := 123) (by decide +kernel))
theorem cn_4_k : Cond.code ⟨"ParserProof$Parser", "<init>", "(LParserProof$Grammar;LParserProof$Automaton;)V"⟩ prog_6_method_1_code 3 none ∈ lw_tbl := List.mem_append_right _ (List.mem_of_getElem? (i := 120) (by decide +kernel))
set_option maxHeartbeats 4000000 in
set_option maxRecDepth 100000 in
theorem cn_4 (hE : ct_E s0 a0 dC dI cA) (ws : va_W) (k h0 : Nat) (r1 r2 : Nat) (hg : ws[k]? = some (h0, Sum.inr (4, [.null, .null, .null, .int 0, .int 0, .null, .null, .int 0, .null, .int 0]))) : Met l ⟨"ParserProof$Parser", "<init>", "(LParserProof$Grammar;LParserProof$Automaton;)V"⟩ [Cond.code ⟨"ParserProof$Parser", "<init>", "(LParserProof$Grammar;LParserProof$Automaton;)V"⟩ prog_6_method_1_code 3 none] { frames := 1, cells := 4, slots := 442, locals := 12 } (ct_P s0 dC dI [.ref h0, .ref r1, .ref r2] ws) (ct_Q s0 dC dI (fun ws' => ∃ q1 q2 q3 q4 : Nat, ws' = ((((((((((ws ++ [ct_ar q1 (cA 0) 20]).set k (h0, Sum.inr (4, [.null, .null, .ref q1, .int 0, .int 0, .null, .null, .int 0, .null, .int 0]))) ++ [ct_ar q2 (cA 0) 61]).set k (h0, Sum.inr (4, [.null, .null, .ref q1, .int 0, .int 0, .ref q2, .null, .int 0, .null, .int 0]))) ++ [ct_ar q3 (cA 0) 61]).set k (h0, Sum.inr (4, [.null, .null, .ref q1, .int 0, .int 0, .ref q2, .ref q3, .int 0, .null, .int 0]))) ++ [ct_ar q4 (cA 0) 300]).set k (h0, Sum.inr (4, [.null, .null, .ref q1, .int 0, .int 0, .ref q2, .ref q3, .int 0, .ref q4, .int 0]))).set k (h0, Sum.inr (4, [.ref r1, .null, .ref q1, .int 0, .int 0, .ref q2, .ref q3, .int 0, .ref q4, .int 0]))).set k (h0, Sum.inr (4, [.ref r1, .ref r2, .ref q1, .int 0, .int 0, .ref q2, .ref q3, .int 0, .ref q4, .int 0]))))) 4 442 (fun q => s0.heap.size ≤ q) := by
  refine Met.ofW (cc := prog_6_method_1_code) (maxL := 3) (ret := none) (by decide) rfl ?_
  intro p e s m args below meth c s₁ B hml hv
  obtain ⟨rfl, hW0, hsz, hP, hD⟩ := hv
  have hx := B.exec
  have hb := B.bytes
  have hr := B.returns
  have hown : s.vm.findClass (ab_cs 4) = some m.cls := findClass_of_methodNamed B.named
  have hlocks := B.notSynchronized
  have hin : meth.name = "<init>" := (name_of_methodNamed B.named B.method).1
  have hS : va_S (fun q => s0.heap.size ≤ q) s.heap s.heap [] := va_S.rf
  have hl := lv_entry ([.ref h0, .ref r1, .ref r2]) (n := 3) (Nat.le_of_ble_eq_true rfl)
  rw [lg_entry_eq]
  generalize (lg_sl ([.ref h0, .ref r1, .ref r2]) ++ List.replicate (3 - (lg_sl ([.ref h0, .ref r1, .ref r2])).length) Slot.unset).toArray = ls at hl ⊢
  have hl : lv_has ls 3 [(0, .ref h0), (1, .ref r1), (2, .ref r2)] := hl
  refine lv_aload_n hx hb cn_4_d0 rfl (lv_at hl 0 rfl) ?_
  refine W.objInit hx hb hown (hE.word cn_4_o rfl hW0 _) (hE.word ow_i rfl hW0 _) (hE.word ow_c rfl hW0 _) rfl (by rw [hml]; exact hl.1) rfl cn_4_d1 (Nat.le_of_ble_eq_true rfl) (Nat.le_of_ble_eq_true rfl) ?_
  refine W.eq (g2 := F0 m 4 ls []) rfl ?_
  refine ct_arr (ws := ws) (k := k) (h0 := h0) (f := 2) (fs := [.null, .null, .null, .int 0, .int 0, .null, .null, .int 0, .null, .int 0]) (tk := 0) (idx := 9) (N' := 20) hE hx hb (by decide) hown hin hW0 hsz hg hP hD hS (lv_at hl 0 rfl) cn_4_d4 (fun z => lv_bipush hx hb cn_4_d5 (v := 20) rfl z) cn_4_d7 cn_4_d9 rfl rfl rfl aw_0 (by decide) rfl (by decide) (Nat.le_of_ble_eq_true rfl) (Nat.le_of_ble_eq_true rfl) (Nat.le_of_ble_eq_true rfl) (Nat.le_of_ble_eq_true rfl) rfl cn_4_l9 (fun _ => rfl) (fun _ => rfl) (fun q1 H locs hP hD hS => ?_)
  have hg := ct_g1 (y := ct_ar q1 (cA 0) 20) (z := (h0, Sum.inr (4, [.null, .null, .ref q1, .int 0, .int 0, .null, .null, .int 0, .null, .int 0]))) hg
  have hP : va_P (dC, dI) ab_cls ((ws ++ [ct_ar q1 (cA 0) 20]).set k (h0, Sum.inr (4, [.null, .null, .ref q1, .int 0, .int 0, .null, .null, .int 0, .null, .int 0]))) H := hP
  have hD : va_D (fun q => s0.heap.size ≤ q) ((ws ++ [ct_ar q1 (cA 0) 20]).set k (h0, Sum.inr (4, [.null, .null, .ref q1, .int 0, .int 0, .null, .null, .int 0, .null, .int 0]))) := hD
  refine ct_arr (ws := ((ws ++ [ct_ar q1 (cA 0) 20]).set k (h0, Sum.inr (4, [.null, .null, .ref q1, .int 0, .int 0, .null, .null, .int 0, .null, .int 0])))) (k := k) (h0 := h0) (f := 5) (fs := [.null, .null, .ref q1, .int 0, .int 0, .null, .null, .int 0, .null, .int 0]) (tk := 0) (idx := 15) (N' := 61) hE hx hb (by decide) hown hin hW0 hsz hg hP hD hS (lv_at hl 0 rfl) cn_4_d12 (fun z => lv_bipush hx hb cn_4_d13 (v := 61) rfl z) cn_4_d15 cn_4_d17 rfl rfl rfl aw_0 (by decide) rfl (by decide) (Nat.le_of_ble_eq_true rfl) (Nat.le_of_ble_eq_true rfl) (Nat.le_of_ble_eq_true rfl) (Nat.le_of_ble_eq_true rfl) rfl cn_4_l15 (fun _ => rfl) (fun _ => rfl) (fun q2 H locs hP hD hS => ?_)
  have hg := ct_g1 (y := ct_ar q2 (cA 0) 61) (z := (h0, Sum.inr (4, [.null, .null, .ref q1, .int 0, .int 0, .ref q2, .null, .int 0, .null, .int 0]))) hg
  have hP : va_P (dC, dI) ab_cls ((((ws ++ [ct_ar q1 (cA 0) 20]).set k (h0, Sum.inr (4, [.null, .null, .ref q1, .int 0, .int 0, .null, .null, .int 0, .null, .int 0]))) ++ [ct_ar q2 (cA 0) 61]).set k (h0, Sum.inr (4, [.null, .null, .ref q1, .int 0, .int 0, .ref q2, .null, .int 0, .null, .int 0]))) H := hP
  have hD : va_D (fun q => s0.heap.size ≤ q) ((((ws ++ [ct_ar q1 (cA 0) 20]).set k (h0, Sum.inr (4, [.null, .null, .ref q1, .int 0, .int 0, .null, .null, .int 0, .null, .int 0]))) ++ [ct_ar q2 (cA 0) 61]).set k (h0, Sum.inr (4, [.null, .null, .ref q1, .int 0, .int 0, .ref q2, .null, .int 0, .null, .int 0]))) := hD
  refine ct_arr (ws := ((((ws ++ [ct_ar q1 (cA 0) 20]).set k (h0, Sum.inr (4, [.null, .null, .ref q1, .int 0, .int 0, .null, .null, .int 0, .null, .int 0]))) ++ [ct_ar q2 (cA 0) 61]).set k (h0, Sum.inr (4, [.null, .null, .ref q1, .int 0, .int 0, .ref q2, .null, .int 0, .null, .int 0])))) (k := k) (h0 := h0) (f := 6) (fs := [.null, .null, .ref q1, .int 0, .int 0, .ref q2, .null, .int 0, .null, .int 0]) (tk := 0) (idx := 18) (N' := 61) hE hx hb (by decide) hown hin hW0 hsz hg hP hD hS (lv_at hl 0 rfl) cn_4_d20 (fun z => lv_bipush hx hb cn_4_d21 (v := 61) rfl z) cn_4_d23 cn_4_d25 rfl rfl rfl aw_0 (by decide) rfl (by decide) (Nat.le_of_ble_eq_true rfl) (Nat.le_of_ble_eq_true rfl) (Nat.le_of_ble_eq_true rfl) (Nat.le_of_ble_eq_true rfl) rfl cn_4_l18 (fun _ => rfl) (fun _ => rfl) (fun q3 H locs hP hD hS => ?_)
  have hg := ct_g1 (y := ct_ar q3 (cA 0) 61) (z := (h0, Sum.inr (4, [.null, .null, .ref q1, .int 0, .int 0, .ref q2, .ref q3, .int 0, .null, .int 0]))) hg
  have hP : va_P (dC, dI) ab_cls ((((((ws ++ [ct_ar q1 (cA 0) 20]).set k (h0, Sum.inr (4, [.null, .null, .ref q1, .int 0, .int 0, .null, .null, .int 0, .null, .int 0]))) ++ [ct_ar q2 (cA 0) 61]).set k (h0, Sum.inr (4, [.null, .null, .ref q1, .int 0, .int 0, .ref q2, .null, .int 0, .null, .int 0]))) ++ [ct_ar q3 (cA 0) 61]).set k (h0, Sum.inr (4, [.null, .null, .ref q1, .int 0, .int 0, .ref q2, .ref q3, .int 0, .null, .int 0]))) H := hP
  have hD : va_D (fun q => s0.heap.size ≤ q) ((((((ws ++ [ct_ar q1 (cA 0) 20]).set k (h0, Sum.inr (4, [.null, .null, .ref q1, .int 0, .int 0, .null, .null, .int 0, .null, .int 0]))) ++ [ct_ar q2 (cA 0) 61]).set k (h0, Sum.inr (4, [.null, .null, .ref q1, .int 0, .int 0, .ref q2, .null, .int 0, .null, .int 0]))) ++ [ct_ar q3 (cA 0) 61]).set k (h0, Sum.inr (4, [.null, .null, .ref q1, .int 0, .int 0, .ref q2, .ref q3, .int 0, .null, .int 0]))) := hD
  refine ct_arr (ws := ((((((ws ++ [ct_ar q1 (cA 0) 20]).set k (h0, Sum.inr (4, [.null, .null, .ref q1, .int 0, .int 0, .null, .null, .int 0, .null, .int 0]))) ++ [ct_ar q2 (cA 0) 61]).set k (h0, Sum.inr (4, [.null, .null, .ref q1, .int 0, .int 0, .ref q2, .null, .int 0, .null, .int 0]))) ++ [ct_ar q3 (cA 0) 61]).set k (h0, Sum.inr (4, [.null, .null, .ref q1, .int 0, .int 0, .ref q2, .ref q3, .int 0, .null, .int 0])))) (k := k) (h0 := h0) (f := 8) (fs := [.null, .null, .ref q1, .int 0, .int 0, .ref q2, .ref q3, .int 0, .null, .int 0]) (tk := 0) (idx := 21) (N' := 300) hE hx hb (by decide) hown hin hW0 hsz hg hP hD hS (lv_at hl 0 rfl) cn_4_d28 (fun z => lv_sipush hx hb cn_4_d29 (v := 300) rfl z) cn_4_d32 cn_4_d34 rfl rfl rfl aw_0 (by decide) rfl (by decide) (Nat.le_of_ble_eq_true rfl) (Nat.le_of_ble_eq_true rfl) (Nat.le_of_ble_eq_true rfl) (Nat.le_of_ble_eq_true rfl) rfl cn_4_l21 (fun _ => rfl) (fun _ => rfl) (fun q4 H locs hP hD hS => ?_)
  have hg := ct_g1 (y := ct_ar q4 (cA 0) 300) (z := (h0, Sum.inr (4, [.null, .null, .ref q1, .int 0, .int 0, .ref q2, .ref q3, .int 0, .ref q4, .int 0]))) hg
  have hP : va_P (dC, dI) ab_cls ((((((((ws ++ [ct_ar q1 (cA 0) 20]).set k (h0, Sum.inr (4, [.null, .null, .ref q1, .int 0, .int 0, .null, .null, .int 0, .null, .int 0]))) ++ [ct_ar q2 (cA 0) 61]).set k (h0, Sum.inr (4, [.null, .null, .ref q1, .int 0, .int 0, .ref q2, .null, .int 0, .null, .int 0]))) ++ [ct_ar q3 (cA 0) 61]).set k (h0, Sum.inr (4, [.null, .null, .ref q1, .int 0, .int 0, .ref q2, .ref q3, .int 0, .null, .int 0]))) ++ [ct_ar q4 (cA 0) 300]).set k (h0, Sum.inr (4, [.null, .null, .ref q1, .int 0, .int 0, .ref q2, .ref q3, .int 0, .ref q4, .int 0]))) H := hP
  have hD : va_D (fun q => s0.heap.size ≤ q) ((((((((ws ++ [ct_ar q1 (cA 0) 20]).set k (h0, Sum.inr (4, [.null, .null, .ref q1, .int 0, .int 0, .null, .null, .int 0, .null, .int 0]))) ++ [ct_ar q2 (cA 0) 61]).set k (h0, Sum.inr (4, [.null, .null, .ref q1, .int 0, .int 0, .ref q2, .null, .int 0, .null, .int 0]))) ++ [ct_ar q3 (cA 0) 61]).set k (h0, Sum.inr (4, [.null, .null, .ref q1, .int 0, .int 0, .ref q2, .ref q3, .int 0, .null, .int 0]))) ++ [ct_ar q4 (cA 0) 300]).set k (h0, Sum.inr (4, [.null, .null, .ref q1, .int 0, .int 0, .ref q2, .ref q3, .int 0, .ref q4, .int 0]))) := hD
  refine ct_ref (ws := ((((((((ws ++ [ct_ar q1 (cA 0) 20]).set k (h0, Sum.inr (4, [.null, .null, .ref q1, .int 0, .int 0, .null, .null, .int 0, .null, .int 0]))) ++ [ct_ar q2 (cA 0) 61]).set k (h0, Sum.inr (4, [.null, .null, .ref q1, .int 0, .int 0, .ref q2, .null, .int 0, .null, .int 0]))) ++ [ct_ar q3 (cA 0) 61]).set k (h0, Sum.inr (4, [.null, .null, .ref q1, .int 0, .int 0, .ref q2, .ref q3, .int 0, .null, .int 0]))) ++ [ct_ar q4 (cA 0) 300]).set k (h0, Sum.inr (4, [.null, .null, .ref q1, .int 0, .int 0, .ref q2, .ref q3, .int 0, .ref q4, .int 0])))) (k := k) (h0 := h0) (f := 0) (r := r1) (fs := [.null, .null, .ref q1, .int 0, .int 0, .ref q2, .ref q3, .int 0, .ref q4, .int 0]) (j' := 1) (idx := 24) hE hx hb (by decide) hown hin hW0 hg hP hD hS (lv_at hl 0 rfl) rfl (lv_at hl 1 rfl) cn_4_d37 cn_4_d38 cn_4_d39 (Nat.le_of_ble_eq_true rfl) (Nat.le_of_ble_eq_true rfl) rfl cn_4_l24 (fun _ => rfl) (fun _ => rfl) (fun H locs hP hD hS => ?_)
  have hg := ct_g0 (z := (h0, Sum.inr (4, [.ref r1, .null, .ref q1, .int 0, .int 0, .ref q2, .ref q3, .int 0, .ref q4, .int 0]))) hg
  have hP : va_P (dC, dI) ab_cls (((((((((ws ++ [ct_ar q1 (cA 0) 20]).set k (h0, Sum.inr (4, [.null, .null, .ref q1, .int 0, .int 0, .null, .null, .int 0, .null, .int 0]))) ++ [ct_ar q2 (cA 0) 61]).set k (h0, Sum.inr (4, [.null, .null, .ref q1, .int 0, .int 0, .ref q2, .null, .int 0, .null, .int 0]))) ++ [ct_ar q3 (cA 0) 61]).set k (h0, Sum.inr (4, [.null, .null, .ref q1, .int 0, .int 0, .ref q2, .ref q3, .int 0, .null, .int 0]))) ++ [ct_ar q4 (cA 0) 300]).set k (h0, Sum.inr (4, [.null, .null, .ref q1, .int 0, .int 0, .ref q2, .ref q3, .int 0, .ref q4, .int 0]))).set k (h0, Sum.inr (4, [.ref r1, .null, .ref q1, .int 0, .int 0, .ref q2, .ref q3, .int 0, .ref q4, .int 0]))) H := hP
  have hD : va_D (fun q => s0.heap.size ≤ q) (((((((((ws ++ [ct_ar q1 (cA 0) 20]).set k (h0, Sum.inr (4, [.null, .null, .ref q1, .int 0, .int 0, .null, .null, .int 0, .null, .int 0]))) ++ [ct_ar q2 (cA 0) 61]).set k (h0, Sum.inr (4, [.null, .null, .ref q1, .int 0, .int 0, .ref q2, .null, .int 0, .null, .int 0]))) ++ [ct_ar q3 (cA 0) 61]).set k (h0, Sum.inr (4, [.null, .null, .ref q1, .int 0, .int 0, .ref q2, .ref q3, .int 0, .null, .int 0]))) ++ [ct_ar q4 (cA 0) 300]).set k (h0, Sum.inr (4, [.null, .null, .ref q1, .int 0, .int 0, .ref q2, .ref q3, .int 0, .ref q4, .int 0]))).set k (h0, Sum.inr (4, [.ref r1, .null, .ref q1, .int 0, .int 0, .ref q2, .ref q3, .int 0, .ref q4, .int 0]))) := hD
  refine ct_ref (ws := (((((((((ws ++ [ct_ar q1 (cA 0) 20]).set k (h0, Sum.inr (4, [.null, .null, .ref q1, .int 0, .int 0, .null, .null, .int 0, .null, .int 0]))) ++ [ct_ar q2 (cA 0) 61]).set k (h0, Sum.inr (4, [.null, .null, .ref q1, .int 0, .int 0, .ref q2, .null, .int 0, .null, .int 0]))) ++ [ct_ar q3 (cA 0) 61]).set k (h0, Sum.inr (4, [.null, .null, .ref q1, .int 0, .int 0, .ref q2, .ref q3, .int 0, .null, .int 0]))) ++ [ct_ar q4 (cA 0) 300]).set k (h0, Sum.inr (4, [.null, .null, .ref q1, .int 0, .int 0, .ref q2, .ref q3, .int 0, .ref q4, .int 0]))).set k (h0, Sum.inr (4, [.ref r1, .null, .ref q1, .int 0, .int 0, .ref q2, .ref q3, .int 0, .ref q4, .int 0])))) (k := k) (h0 := h0) (f := 1) (r := r2) (fs := [.ref r1, .null, .ref q1, .int 0, .int 0, .ref q2, .ref q3, .int 0, .ref q4, .int 0]) (j' := 2) (idx := 28) hE hx hb (by decide) hown hin hW0 hg hP hD hS (lv_at hl 0 rfl) rfl (lv_at hl 2 rfl) cn_4_d42 cn_4_d43 cn_4_d44 (Nat.le_of_ble_eq_true rfl) (Nat.le_of_ble_eq_true rfl) rfl cn_4_l28 (fun _ => rfl) (fun _ => rfl) (fun H locs hP hD hS => ?_)
  have hg := ct_g0 (z := (h0, Sum.inr (4, [.ref r1, .ref r2, .ref q1, .int 0, .int 0, .ref q2, .ref q3, .int 0, .ref q4, .int 0]))) hg
  have hP : va_P (dC, dI) ab_cls ((((((((((ws ++ [ct_ar q1 (cA 0) 20]).set k (h0, Sum.inr (4, [.null, .null, .ref q1, .int 0, .int 0, .null, .null, .int 0, .null, .int 0]))) ++ [ct_ar q2 (cA 0) 61]).set k (h0, Sum.inr (4, [.null, .null, .ref q1, .int 0, .int 0, .ref q2, .null, .int 0, .null, .int 0]))) ++ [ct_ar q3 (cA 0) 61]).set k (h0, Sum.inr (4, [.null, .null, .ref q1, .int 0, .int 0, .ref q2, .ref q3, .int 0, .null, .int 0]))) ++ [ct_ar q4 (cA 0) 300]).set k (h0, Sum.inr (4, [.null, .null, .ref q1, .int 0, .int 0, .ref q2, .ref q3, .int 0, .ref q4, .int 0]))).set k (h0, Sum.inr (4, [.ref r1, .null, .ref q1, .int 0, .int 0, .ref q2, .ref q3, .int 0, .ref q4, .int 0]))).set k (h0, Sum.inr (4, [.ref r1, .ref r2, .ref q1, .int 0, .int 0, .ref q2, .ref q3, .int 0, .ref q4, .int 0]))) H := hP
  have hD : va_D (fun q => s0.heap.size ≤ q) ((((((((((ws ++ [ct_ar q1 (cA 0) 20]).set k (h0, Sum.inr (4, [.null, .null, .ref q1, .int 0, .int 0, .null, .null, .int 0, .null, .int 0]))) ++ [ct_ar q2 (cA 0) 61]).set k (h0, Sum.inr (4, [.null, .null, .ref q1, .int 0, .int 0, .ref q2, .null, .int 0, .null, .int 0]))) ++ [ct_ar q3 (cA 0) 61]).set k (h0, Sum.inr (4, [.null, .null, .ref q1, .int 0, .int 0, .ref q2, .ref q3, .int 0, .null, .int 0]))) ++ [ct_ar q4 (cA 0) 300]).set k (h0, Sum.inr (4, [.null, .null, .ref q1, .int 0, .int 0, .ref q2, .ref q3, .int 0, .ref q4, .int 0]))).set k (h0, Sum.inr (4, [.ref r1, .null, .ref q1, .int 0, .int 0, .ref q2, .ref q3, .int 0, .ref q4, .int 0]))).set k (h0, Sum.inr (4, [.ref r1, .ref r2, .ref q1, .int 0, .int 0, .ref q2, .ref q3, .int 0, .ref q4, .int 0]))) := hD
  exact W.vret hx hb hr (fun t ht hW => ⟨rfl, ⟨_, ⟨q1, q2, q3, q4, rfl⟩, by rw [ht]; exact hP, hD⟩, hS.F ht⟩) hS.2.2 cn_4_d47
theorem cn_6_d0 : decode prog_8_method_1_code 0 = .ok (.aload_n 0, 1) := by decide +kernel
theorem cn_6_d1 : decode prog_8_method_1_code 1 = .ok (.invokespecial 1, 3) := by decide +kernel
theorem cn_6_d4 : decode prog_8_method_1_code 4 = .ok (.aload_n 0, 1) := by decide +kernel
theorem cn_6_d5 : decode prog_8_method_1_code 5 = .ok (.bipush 8, 2) := by decide +kernel
theorem cn_6_d7 : decode prog_8_method_1_code 7 = .ok (.newarray .int, 2) := by decide +kernel
theorem cn_6_d9 : decode prog_8_method_1_code 9 = .ok (.putfield 7, 3) := by decide +kernel
theorem cn_6_d12 : decode prog_8_method_1_code 12 = .ok (.aload_n 0, 1) := by decide +kernel
theorem cn_6_d13 : decode prog_8_method_1_code 13 = .ok (.bipush 8, 2) := by decide +kernel
theorem cn_6_d15 : decode prog_8_method_1_code 15 = .ok (.newarray .int, 2) := by decide +kernel
theorem cn_6_d17 : decode prog_8_method_1_code 17 = .ok (.putfield 13, 3) := by decide +kernel
theorem cn_6_d20 : decode prog_8_method_1_code 20 = .ok (.aload_n 0, 1) := by decide +kernel
theorem cn_6_d21 : decode prog_8_method_1_code 21 = .ok (.bipush 32, 2) := by decide +kernel
theorem cn_6_d23 : decode prog_8_method_1_code 23 = .ok (.newarray .int, 2) := by decide +kernel
theorem cn_6_d25 : decode prog_8_method_1_code 25 = .ok (.putfield 16, 3) := by decide +kernel
theorem cn_6_d28 : decode prog_8_method_1_code 28 = .ok (.aload_n 0, 1) := by decide +kernel
theorem cn_6_d29 : decode prog_8_method_1_code 29 = .ok (.iconst 4, 1) := by decide +kernel
theorem cn_6_d30 : decode prog_8_method_1_code 30 = .ok (.newarray .boolean, 2) := by decide +kernel
theorem cn_6_d32 : decode prog_8_method_1_code 32 = .ok (.putfield 19, 3) := by decide +kernel
theorem cn_6_d35 : decode prog_8_method_1_code 35 = .ok (.aload_n 0, 1) := by decide +kernel
theorem cn_6_d36 : decode prog_8_method_1_code 36 = .ok (.bipush 81, 2) := by decide +kernel
theorem cn_6_d38 : decode prog_8_method_1_code 38 = .ok (.newarray .boolean, 2) := by decide +kernel
theorem cn_6_d40 : decode prog_8_method_1_code 40 = .ok (.putfield 23, 3) := by decide +kernel
theorem cn_6_d43 : decode prog_8_method_1_code 43 = .ok (.aload_n 0, 1) := by decide +kernel
theorem cn_6_d44 : decode prog_8_method_1_code 44 = .ok (.sipush 13500, 3) := by decide +kernel
theorem cn_6_d47 : decode prog_8_method_1_code 47 = .ok (.newarray .boolean, 2) := by decide +kernel
theorem cn_6_d49 : decode prog_8_method_1_code 49 = .ok (.putfield 26, 3) := by decide +kernel
theorem cn_6_d52 : decode prog_8_method_1_code 52 = .ok (.aload_n 0, 1) := by decide +kernel
theorem cn_6_d53 : decode prog_8_method_1_code 53 = .ok (.sipush 500, 3) := by decide +kernel
theorem cn_6_d56 : decode prog_8_method_1_code 56 = .ok (.newarray .int, 2) := by decide +kernel
theorem cn_6_d58 : decode prog_8_method_1_code 58 = .ok (.putfield 29, 3) := by decide +kernel
theorem cn_6_d61 : decode prog_8_method_1_code 61 = .ok (.aload_n 0, 1) := by decide +kernel
theorem cn_6_d62 : decode prog_8_method_1_code 62 = .ok (.sipush 270, 3) := by decide +kernel
theorem cn_6_d65 : decode prog_8_method_1_code 65 = .ok (.newarray .boolean, 2) := by decide +kernel
theorem cn_6_d67 : decode prog_8_method_1_code 67 = .ok (.putfield 32, 3) := by decide +kernel
theorem cn_6_d70 : decode prog_8_method_1_code 70 = .ok (.aload_n 0, 1) := by decide +kernel
theorem cn_6_d71 : decode prog_8_method_1_code 71 = .ok (.sipush 270, 3) := by decide +kernel
theorem cn_6_d74 : decode prog_8_method_1_code 74 = .ok (.newarray .int, 2) := by decide +kernel
theorem cn_6_d76 : decode prog_8_method_1_code 76 = .ok (.putfield 35, 3) := by decide +kernel
theorem cn_6_d79 : decode prog_8_method_1_code 79 = .ok (.aload_n 0, 1) := by decide +kernel
theorem cn_6_d80 : decode prog_8_method_1_code 80 = .ok (.iconst (-1), 1) := by decide +kernel
theorem cn_6_d81 : decode prog_8_method_1_code 81 = .ok (.putfield 38, 3) := by decide +kernel
theorem cn_6_d84 : decode prog_8_method_1_code 84 = .ok (.aload_n 0, 1) := by decide +kernel
theorem cn_6_d85 : decode prog_8_method_1_code 85 = .ok (.iconst (-1), 1) := by decide +kernel
theorem cn_6_d86 : decode prog_8_method_1_code 86 = .ok (.putfield 42, 3) := by decide +kernel
theorem cn_6_d89 : decode prog_8_method_1_code 89 = .ok (.aload_n 0, 1) := by decide +kernel
theorem cn_6_d90 : decode prog_8_method_1_code 90 = .ok (.iconst (-1), 1) := by decide +kernel
theorem cn_6_d91 : decode prog_8_method_1_code 91 = .ok (.putfield 45, 3) := by decide +kernel
theorem cn_6_d94 : decode prog_8_method_1_code 94 = .ok (.aload_n 0, 1) := by decide +kernel
theorem cn_6_d95 : decode prog_8_method_1_code 95 = .ok (.iconst (-1), 1) := by decide +kernel
theorem cn_6_d96 : decode prog_8_method_1_code 96 = .ok (.putfield 48, 3) := by decide +kernel
theorem cn_6_d99 : decode prog_8_method_1_code 99 = .ok (.aload_n 0, 1) := by decide +kernel
theorem cn_6_d100 : decode prog_8_method_1_code 100 = .ok (.bipush 20, 2) := by decide +kernel
theorem cn_6_d102 : decode prog_8_method_1_code 102 = .ok (.newarray .int, 2) := by decide +kernel
theorem cn_6_d104 : decode prog_8_method_1_code 104 = .ok (.putfield 51, 3) := by decide +kernel
theorem cn_6_d107 : decode prog_8_method_1_code 107 = .ok (.aload_n 0, 1) := by decide +kernel
theorem cn_6_d108 : decode prog_8_method_1_code 108 = .ok (.bipush 61, 2) := by decide +kernel
theorem cn_6_d110 : decode prog_8_method_1_code 110 = .ok (.newarray .int, 2) := by decide +kernel
theorem cn_6_d112 : decode prog_8_method_1_code 112 = .ok (.putfield 54, 3) := by decide +kernel
theorem cn_6_d115 : decode prog_8_method_1_code 115 = .ok (.aload_n 0, 1) := by decide +kernel
theorem cn_6_d116 : decode prog_8_method_1_code 116 = .ok (.bipush 61, 2) := by decide +kernel
theorem cn_6_d118 : decode prog_8_method_1_code 118 = .ok (.newarray .int, 2) := by decide +kernel
theorem cn_6_d120 : decode prog_8_method_1_code 120 = .ok (.putfield 57, 3) := by decide +kernel
theorem cn_6_d123 : decode prog_8_method_1_code 123 = .ok (.aload_n 0, 1) := by decide +kernel
theorem cn_6_d124 : decode prog_8_method_1_code 124 = .ok (.bipush 60, 2) := by decide +kernel
theorem cn_6_d126 : decode prog_8_method_1_code 126 = .ok (.newarray .int, 2) := by decide +kernel
theorem cn_6_d128 : decode prog_8_method_1_code 128 = .ok (.putfield 60, 3) := by decide +kernel
theorem cn_6_d131 : decode prog_8_method_1_code 131 = .ok (.aload_n 0, 1) := by decide +kernel
theorem cn_6_d132 : decode prog_8_method_1_code 132 = .ok (.bipush 60, 2) := by decide +kernel
theorem cn_6_d134 : decode prog_8_method_1_code 134 = .ok (.newarray .int, 2) := by decide +kernel
theorem cn_6_d136 : decode prog_8_method_1_code 136 = .ok (.putfield 63, 3) := by decide +kernel
theorem cn_6_d139 : decode prog_8_method_1_code 139 = .ok (.aload_n 0, 1) := by decide +kernel
theorem cn_6_d140 : decode prog_8_method_1_code 140 = .ok (.bipush 60, 2) := by decide +kernel
theorem cn_6_d142 : decode prog_8_method_1_code 142 = .ok (.newarray .int, 2) := by decide +kernel
theorem cn_6_d144 : decode prog_8_method_1_code 144 = .ok (.putfield 66, 3) := by decide +kernel
theorem cn_6_d147 : decode prog_8_method_1_code 147 = .ok (.aload_n 0, 1) := by decide +kernel
theorem cn_6_d148 : decode prog_8_method_1_code 148 = .ok (.bipush 60, 2) := by decide +kernel
theorem cn_6_d150 : decode prog_8_method_1_code 150 = .ok (.newarray .int, 2) := by decide +kernel
theorem cn_6_d152 : decode prog_8_method_1_code 152 = .ok (.putfield 69, 3) := by decide +kernel
theorem cn_6_d155 : decode prog_8_method_1_code 155 = .ok (.aload_n 0, 1) := by decide +kernel
theorem cn_6_d156 : decode prog_8_method_1_code 156 = .ok (.bipush 60, 2) := by decide +kernel
theorem cn_6_d158 : decode prog_8_method_1_code 158 = .ok (.newarray .int, 2) := by decide +kernel
theorem cn_6_d160 : decode prog_8_method_1_code 160 = .ok (.putfield 72, 3) := by decide +kernel
theorem cn_6_d163 : decode prog_8_method_1_code 163 = .ok (.return_, 1) := by decide +kernel
theorem cn_6_o : Cond.methodLink (ab_cs 6) 1 objectInit ∈ lw_tbl := List.mem_append_right _ (List.mem_of_getElem? (i := 663) (by decide +kernel))
theorem cn_6_l7 : Cond.fieldLink (ab_cs 6) 7 (ab_cs 6) (ab_T 6 2).2.1 (ab_T 6 2).2.2.1 ∈ lw_tbl := List.mem_append_right _ (List.mem_of_getElem? (i := 666) (by decide +kernel))
theorem cn_6_l13 : Cond.fieldLink (ab_cs 6) 13 (ab_cs 6) (ab_T 6 3).2.1 (ab_T 6 3).2.2.1 ∈ lw_tbl := List.mem_append_right _ (List.mem_of_getElem? (i := 667) (by decide +kernel))
theorem cn_6_l16 : Cond.fieldLink (ab_cs 6) 16 (ab_cs 6) (ab_T 6 4).2.1 (ab_T 6 4).2.2.1 ∈ lw_tbl := List.mem_append_right _ (List.mem_of_getElem? (i := 668) (by decide +kernel))
theorem cn_6_l19 : Cond.fieldLink (ab_cs 6) 19 (ab_cs 6) (ab_T 6 5).2.1 (ab_T 6 5).2.2.1 ∈ lw_tbl := List.mem_append_right _ (List.mem_of_getElem? (i := 669) (by decide +kernel))
theorem cn_6_l23 : Cond.fieldLink (ab_cs 6) 23 (ab_cs 6) (ab_T 6 6).2.1 (ab_T 6 6).2.2.1 ∈ lw_tbl := List.mem_append_right _ (List.mem_of_getElem? (i := 670) (by decide +kernel))
theorem cn_6_l26 : Cond.fieldLink (ab_cs 6) 26 (ab_cs 6) (ab_T 6 8).2.1 (ab_T 6 8).2.2.1 ∈ lw_tbl := List.mem_append_right _ (List.mem_of_getElem? (i := 672) (by decide +kernel))
theorem cn_6_l29 : Cond.fieldLink (ab_cs 6) 29 (ab_cs 6) (ab_T 6 9).2.1 (ab_T 6 9).2.2.1 ∈ lw_tbl := List.mem_append_right _ (List.mem_of_getElem? (i := 673) (by decide +kernel))
theorem cn_6_l32 : Cond.fieldLink (ab_cs 6) 32 (ab_cs 6) (ab_T 6 10).2.1 (ab_T 6 10).2.2.1 ∈ lw_tbl := List.mem_append_right _ (List.mem_of_getElem? (i := 674) (by decide +kernel))
theorem cn_6_l35 : Cond.fieldLink (ab_cs 6) 35 (ab_cs 6) (ab_T 6 11).2.1 (ab_T 6 11).2.2.1 ∈ lw_tbl := List.mem_append_right _ (List.mem_of_getElem? (i := 675) (by decide +kernel))
theorem cn_6_l38 : Cond.fieldLink (ab_cs 6) 38 (ab_cs 6) (ab_T 6 13).2.1 (ab_T 6 13).2.2.1 ∈ lw_tbl := List.mem_append_right _ (List.mem_of_getElem? (i := 677) (by decide +kernel))
theorem cn_6_l42 : Cond.fieldLink (ab_cs 6) 42 (ab_cs 6) (ab_T 6 14).2.1 (ab_T 6 14).2.2.1 ∈ lw_tbl := List.mem_append_right _ (List.mem_of_getElem? (i := 678) (by decide +kernel))
theorem cn_6_l45 : Cond.fieldLink (ab_cs 6) 45 (ab_cs 6) (ab_T 6 15).2.1 (ab_T 6 15).2.2.1 ∈ lw_tbl := List.mem_append_right _ (List.mem_of_getElem? (i := 679) (by decide +kernel))
theorem cn_6_l48 : Cond.fieldLink (ab_cs 6) 48 (ab_cs 6) (ab_T 6 16).2.1 (ab_T 6 16).2.2.1 ∈ lw_tbl := List.mem_append_right _ (List.mem_of_getElem? (i := 680) (by decide +kernel))
theorem cn_6_l51 : Cond.fieldLink (ab_cs 6) 51 (ab_cs 6) (ab_T 6 18).2.1 (ab_T 6 18).2.2.1 ∈ lw_tbl := List.mem_append_right _ (List.mem_of_getElem? (i := 682) (by decide +kernel))
theorem cn_6_l54 : Cond.fieldLink (ab_cs 6) 54 (ab_cs 6) (ab_T 6 23).2.1 (ab_T 6 23).2.2.1 ∈ lw_tbl := List.mem_append_right _ (List.mem_of_getElem? (i := 687) (by decide +kernel))
theorem cn_6_l57 : Cond.fieldLink (ab_cs 6) 57 (ab_cs 6) (ab_T 6 24).2.1 (ab_T 6 24).2.2.1 ∈ lw_tbl := List.mem_append_right _ (List.mem_of_getElem? (i := 688) (by decide +kernel))
theorem cn_6_l60 : Cond.fieldLink (ab_cs 6) 60 (ab_cs 6) (ab_T 6 25).2.1 (ab_T 6 25).2.2.1 ∈ lw_tbl := List.mem_append_right _ (List.mem_of_getElem? (i := 689) (by decide +kernel))
theorem cn_6_l63 : Cond.fieldLink (ab_cs 6) 63 (ab_cs 6) (ab_T 6 26).2.1 (ab_T 6 26).2.2.1 ∈ lw_tbl := List.mem_append_right _ (List.mem_of_getElem? (i := 690) (by decide +kernel))
theorem cn_6_l66 : Cond.fieldLink (ab_cs 6) 66 (ab_cs 6) (ab_T 6 27).2.1 (ab_T 6 27).2.2.1 ∈ lw_tbl := List.mem_append_right _ (List.mem_of_getElem? (i := 691) (by decide +kernel))
theorem cn_6_l69 : Cond.fieldLink (ab_cs 6) 69 (ab_cs 6) (ab_T 6 28).2.1 (ab_T 6 28).2.2.1 ∈ lw_tbl := List.mem_append_right _ (List.mem_of_getElem? (i := 692) (by decide +kernel))
theorem cn_6_l72 : Cond.fieldLink (ab_cs 6) 72 (ab_cs 6) (ab_T 6 29).2.1 (ab_T 6 29).2.2.1 ∈ lw_tbl := List.mem_append_right _ (List.mem_of_getElem? (i := 693) (by decide +kernel))
theorem cn_6_k : Cond.code ⟨"ParserProofModel", "<init>", "()V"⟩ prog_8_method_1_code 1 none ∈ lw_tbl := List.mem_append_right _ (List.mem_of_getElem? (i := 662) (by decide +kernel))
set_option maxHeartbeats 4000000 in
set_option maxRecDepth 100000 in
theorem cn_6 (hE : ct_E s0 a0 dC dI cA) (ws : va_W) (k h0 : Nat) (hg : ws[k]? = some (h0, Sum.inr (6, [.int 0, .int 0, .null, .null, .null, .null, .null, .int 0, .null, .null, .null, .null, .int 0, .int 0, .int 0, .int 0, .int 0, .int 0, .null, .int 0, .int 0, .int 0, .int 0, .null, .null, .null, .null, .null, .null, .null]))) : Met l ⟨"ParserProofModel", "<init>", "()V"⟩ [Cond.code ⟨"ParserProofModel", "<init>", "()V"⟩ prog_8_method_1_code 1 none] { frames := 1, cells := 17, slots := 15115, locals := 12 } (ct_P s0 dC dI [.ref h0] ws) (ct_Q s0 dC dI (fun ws' => ∃ q1 q2 q3 q4 q5 q6 q7 q8 q9 q10 q11 q12 q13 q14 q15 q16 q17 : Nat, ws' = ((((((((((((((((((((((((((((((((((((((ws ++ [ct_ar q1 (cA 0) 8]).set k (h0, Sum.inr (6, [.int 0, .int 0, .ref q1, .null, .null, .null, .null, .int 0, .null, .null, .null, .null, .int 0, .int 0, .int 0, .int 0, .int 0, .int 0, .null, .int 0, .int 0, .int 0, .int 0, .null, .null, .null, .null, .null, .null, .null]))) ++ [ct_ar q2 (cA 0) 8]).set k (h0, Sum.inr (6, [.int 0, .int 0, .ref q1, .ref q2, .null, .null, .null, .int 0, .null, .null, .null, .null, .int 0, .int 0, .int 0, .int 0, .int 0, .int 0, .null, .int 0, .int 0, .int 0, .int 0, .null, .null, .null, .null, .null, .null, .null]))) ++ [ct_ar q3 (cA 0) 32]).set k (h0, Sum.inr (6, [.int 0, .int 0, .ref q1, .ref q2, .ref q3, .null, .null, .int 0, .null, .null, .null, .null, .int 0, .int 0, .int 0, .int 0, .int 0, .int 0, .null, .int 0, .int 0, .int 0, .int 0, .null, .null, .null, .null, .null, .null, .null]))) ++ [ct_ar q4 (cA 1) 4]).set k (h0, Sum.inr (6, [.int 0, .int 0, .ref q1, .ref q2, .ref q3, .ref q4, .null, .int 0, .null, .null, .null, .null, .int 0, .int 0, .int 0, .int 0, .int 0, .int 0, .null, .int 0, .int 0, .int 0, .int 0, .null, .null, .null, .null, .null, .null, .null]))) ++ [ct_ar q5 (cA 1) 81]).set k (h0, Sum.inr (6, [.int 0, .int 0, .ref q1, .ref q2, .ref q3, .ref q4, .ref q5, .int 0, .null, .null, .null, .null, .int 0, .int 0, .int 0, .int 0, .int 0, .int 0, .null, .int 0, .int 0, .int 0, .int 0, .null, .null, .null, .null, .null, .null, .null]))) ++ [ct_ar q6 (cA 1) 13500]).set k (h0, Sum.inr (6, [.int 0, .int 0, .ref q1, .ref q2, .ref q3, .ref q4, .ref q5, .int 0, .ref q6, .null, .null, .null, .int 0, .int 0, .int 0, .int 0, .int 0, .int 0, .null, .int 0, .int 0, .int 0, .int 0, .null, .null, .null, .null, .null, .null, .null]))) ++ [ct_ar q7 (cA 0) 500]).set k (h0, Sum.inr (6, [.int 0, .int 0, .ref q1, .ref q2, .ref q3, .ref q4, .ref q5, .int 0, .ref q6, .ref q7, .null, .null, .int 0, .int 0, .int 0, .int 0, .int 0, .int 0, .null, .int 0, .int 0, .int 0, .int 0, .null, .null, .null, .null, .null, .null, .null]))) ++ [ct_ar q8 (cA 1) 270]).set k (h0, Sum.inr (6, [.int 0, .int 0, .ref q1, .ref q2, .ref q3, .ref q4, .ref q5, .int 0, .ref q6, .ref q7, .ref q8, .null, .int 0, .int 0, .int 0, .int 0, .int 0, .int 0, .null, .int 0, .int 0, .int 0, .int 0, .null, .null, .null, .null, .null, .null, .null]))) ++ [ct_ar q9 (cA 0) 270]).set k (h0, Sum.inr (6, [.int 0, .int 0, .ref q1, .ref q2, .ref q3, .ref q4, .ref q5, .int 0, .ref q6, .ref q7, .ref q8, .ref q9, .int 0, .int 0, .int 0, .int 0, .int 0, .int 0, .null, .int 0, .int 0, .int 0, .int 0, .null, .null, .null, .null, .null, .null, .null]))).set k (h0, Sum.inr (6, [.int 0, .int 0, .ref q1, .ref q2, .ref q3, .ref q4, .ref q5, .int 0, .ref q6, .ref q7, .ref q8, .ref q9, .int 0, .int (Int32.ofInt (-1)), .int 0, .int 0, .int 0, .int 0, .null, .int 0, .int 0, .int 0, .int 0, .null, .null, .null, .null, .null, .null, .null]))).set k (h0, Sum.inr (6, [.int 0, .int 0, .ref q1, .ref q2, .ref q3, .ref q4, .ref q5, .int 0, .ref q6, .ref q7, .ref q8, .ref q9, .int 0, .int (Int32.ofInt (-1)), .int (Int32.ofInt (-1)), .int 0, .int 0, .int 0, .null, .int 0, .int 0, .int 0, .int 0, .null, .null, .null, .null, .null, .null, .null]))).set k (h0, Sum.inr (6, [.int 0, .int 0, .ref q1, .ref q2, .ref q3, .ref q4, .ref q5, .int 0, .ref q6, .ref q7, .ref q8, .ref q9, .int 0, .int (Int32.ofInt (-1)), .int (Int32.ofInt (-1)), .int (Int32.ofInt (-1)), .int 0, .int 0, .null, .int 0, .int 0, .int 0, .int 0, .null, .null, .null, .null, .null, .null, .null]))).set k (h0, Sum.inr (6, [.int 0, .int 0, .ref q1, .ref q2, .ref q3, .ref q4, .ref q5, .int 0, .ref q6, .ref q7, .ref q8, .ref q9, .int 0, .int (Int32.ofInt (-1)), .int (Int32.ofInt (-1)), .int (Int32.ofInt (-1)), .int (Int32.ofInt (-1)), .int 0, .null, .int 0, .int 0, .int 0, .int 0, .null, .null, .null, .null, .null, .null, .null]))) ++ [ct_ar q10 (cA 0) 20]).set k (h0, Sum.inr (6, [.int 0, .int 0, .ref q1, .ref q2, .ref q3, .ref q4, .ref q5, .int 0, .ref q6, .ref q7, .ref q8, .ref q9, .int 0, .int (Int32.ofInt (-1)), .int (Int32.ofInt (-1)), .int (Int32.ofInt (-1)), .int (Int32.ofInt (-1)), .int 0, .ref q10, .int 0, .int 0, .int 0, .int 0, .null, .null, .null, .null, .null, .null, .null]))) ++ [ct_ar q11 (cA 0) 61]).set k (h0, Sum.inr (6, [.int 0, .int 0, .ref q1, .ref q2, .ref q3, .ref q4, .ref q5, .int 0, .ref q6, .ref q7, .ref q8, .ref q9, .int 0, .int (Int32.ofInt (-1)), .int (Int32.ofInt (-1)), .int (Int32.ofInt (-1)), .int (Int32.ofInt (-1)), .int 0, .ref q10, .int 0, .int 0, .int 0, .int 0, .ref q11, .null, .null, .null, .null, .null, .null]))) ++ [ct_ar q12 (cA 0) 61]).set k (h0, Sum.inr (6, [.int 0, .int 0, .ref q1, .ref q2, .ref q3, .ref q4, .ref q5, .int 0, .ref q6, .ref q7, .ref q8, .ref q9, .int 0, .int (Int32.ofInt (-1)), .int (Int32.ofInt (-1)), .int (Int32.ofInt (-1)), .int (Int32.ofInt (-1)), .int 0, .ref q10, .int 0, .int 0, .int 0, .int 0, .ref q11, .ref q12, .null, .null, .null, .null, .null]))) ++ [ct_ar q13 (cA 0) 60]).set k (h0, Sum.inr (6, [.int 0, .int 0, .ref q1, .ref q2, .ref q3, .ref q4, .ref q5, .int 0, .ref q6, .ref q7, .ref q8, .ref q9, .int 0, .int (Int32.ofInt (-1)), .int (Int32.ofInt (-1)), .int (Int32.ofInt (-1)), .int (Int32.ofInt (-1)), .int 0, .ref q10, .int 0, .int 0, .int 0, .int 0, .ref q11, .ref q12, .ref q13, .null, .null, .null, .null]))) ++ [ct_ar q14 (cA 0) 60]).set k (h0, Sum.inr (6, [.int 0, .int 0, .ref q1, .ref q2, .ref q3, .ref q4, .ref q5, .int 0, .ref q6, .ref q7, .ref q8, .ref q9, .int 0, .int (Int32.ofInt (-1)), .int (Int32.ofInt (-1)), .int (Int32.ofInt (-1)), .int (Int32.ofInt (-1)), .int 0, .ref q10, .int 0, .int 0, .int 0, .int 0, .ref q11, .ref q12, .ref q13, .ref q14, .null, .null, .null]))) ++ [ct_ar q15 (cA 0) 60]).set k (h0, Sum.inr (6, [.int 0, .int 0, .ref q1, .ref q2, .ref q3, .ref q4, .ref q5, .int 0, .ref q6, .ref q7, .ref q8, .ref q9, .int 0, .int (Int32.ofInt (-1)), .int (Int32.ofInt (-1)), .int (Int32.ofInt (-1)), .int (Int32.ofInt (-1)), .int 0, .ref q10, .int 0, .int 0, .int 0, .int 0, .ref q11, .ref q12, .ref q13, .ref q14, .ref q15, .null, .null]))) ++ [ct_ar q16 (cA 0) 60]).set k (h0, Sum.inr (6, [.int 0, .int 0, .ref q1, .ref q2, .ref q3, .ref q4, .ref q5, .int 0, .ref q6, .ref q7, .ref q8, .ref q9, .int 0, .int (Int32.ofInt (-1)), .int (Int32.ofInt (-1)), .int (Int32.ofInt (-1)), .int (Int32.ofInt (-1)), .int 0, .ref q10, .int 0, .int 0, .int 0, .int 0, .ref q11, .ref q12, .ref q13, .ref q14, .ref q15, .ref q16, .null]))) ++ [ct_ar q17 (cA 0) 60]).set k (h0, Sum.inr (6, [.int 0, .int 0, .ref q1, .ref q2, .ref q3, .ref q4, .ref q5, .int 0, .ref q6, .ref q7, .ref q8, .ref q9, .int 0, .int (Int32.ofInt (-1)), .int (Int32.ofInt (-1)), .int (Int32.ofInt (-1)), .int (Int32.ofInt (-1)), .int 0, .ref q10, .int 0, .int 0, .int 0, .int 0, .ref q11, .ref q12, .ref q13, .ref q14, .ref q15, .ref q16, .ref q17]))))) 17 15115 (fun q => s0.heap.size ≤ q) := by
  refine Met.ofW (cc := prog_8_method_1_code) (maxL := 1) (ret := none) (by decide) rfl ?_
  intro p e s m args below meth c s₁ B hml hv
  obtain ⟨rfl, hW0, hsz, hP, hD⟩ := hv
  have hx := B.exec
  have hb := B.bytes
  have hr := B.returns
  have hown : s.vm.findClass (ab_cs 6) = some m.cls := findClass_of_methodNamed B.named
  have hlocks := B.notSynchronized
  have hin : meth.name = "<init>" := (name_of_methodNamed B.named B.method).1
  have hS : va_S (fun q => s0.heap.size ≤ q) s.heap s.heap [] := va_S.rf
  have hl := lv_entry ([.ref h0]) (n := 1) (Nat.le_of_ble_eq_true rfl)
  rw [lg_entry_eq]
  generalize (lg_sl ([.ref h0]) ++ List.replicate (1 - (lg_sl ([.ref h0])).length) Slot.unset).toArray = ls at hl ⊢
  have hl : lv_has ls 1 [(0, .ref h0)] := hl
  refine lv_aload_n hx hb cn_6_d0 rfl (lv_at hl 0 rfl) ?_
  refine W.objInit hx hb hown (hE.word cn_6_o rfl hW0 _) (hE.word ow_i rfl hW0 _) (hE.word ow_c rfl hW0 _) rfl (by rw [hml]; exact hl.1) rfl cn_6_d1 (Nat.le_of_ble_eq_true rfl) (Nat.le_of_ble_eq_true rfl) ?_
  refine W.eq (g2 := F0 m 4 ls []) rfl ?_
  refine ct_arr (ws := ws) (k := k) (h0 := h0) (f := 2) (fs := [.int 0, .int 0, .null, .null, .null, .null, .null, .int 0, .null, .null, .null, .null, .int 0, .int 0, .int 0, .int 0, .int 0, .int 0, .null, .int 0, .int 0, .int 0, .int 0, .null, .null, .null, .null, .null, .null, .null]) (tk := 0) (idx := 7) (N' := 8) hE hx hb (by decide) hown hin hW0 hsz hg hP hD hS (lv_at hl 0 rfl) cn_6_d4 (fun z => lv_bipush hx hb cn_6_d5 (v := 8) rfl z) cn_6_d7 cn_6_d9 rfl rfl rfl aw_0 (by decide) rfl (by decide) (Nat.le_of_ble_eq_true rfl) (Nat.le_of_ble_eq_true rfl) (Nat.le_of_ble_eq_true rfl) (Nat.le_of_ble_eq_true rfl) rfl cn_6_l7 (fun _ => rfl) (fun _ => rfl) (fun q1 H locs hP hD hS => ?_)
  have hg := ct_g1 (y := ct_ar q1 (cA 0) 8) (z := (h0, Sum.inr (6, [.int 0, .int 0, .ref q1, .null, .null, .null, .null, .int 0, .null, .null, .null, .null, .int 0, .int 0, .int 0, .int 0, .int 0, .int 0, .null, .int 0, .int 0, .int 0, .int 0, .null, .null, .null, .null, .null, .null, .null]))) hg
  have hP : va_P (dC, dI) ab_cls ((ws ++ [ct_ar q1 (cA 0) 8]).set k (h0, Sum.inr (6, [.int 0, .int 0, .ref q1, .null, .null, .null, .null, .int 0, .null, .null, .null, .null, .int 0, .int 0, .int 0, .int 0, .int 0, .int 0, .null, .int 0, .int 0, .int 0, .int 0, .null, .null, .null, .null, .null, .null, .null]))) H := hP
  have hD : va_D (fun q => s0.heap.size ≤ q) ((ws ++ [ct_ar q1 (cA 0) 8]).set k (h0, Sum.inr (6, [.int 0, .int 0, .ref q1, .null, .null, .null, .null, .int 0, .null, .null, .null, .null, .int 0, .int 0, .int 0, .int 0, .int 0, .int 0, .null, .int 0, .int 0, .int 0, .int 0, .null, .null, .null, .null, .null, .null, .null]))) := hD
  refine ct_arr (ws := ((ws ++ [ct_ar q1 (cA 0) 8]).set k (h0, Sum.inr (6, [.int 0, .int 0, .ref q1, .null, .null, .null, .null, .int 0, .null, .null, .null, .null, .int 0, .int 0, .int 0, .int 0, .int 0, .int 0, .null, .int 0, .int 0, .int 0, .int 0, .null, .null, .null, .null, .null, .null, .null])))) (k := k) (h0 := h0) (f := 3) (fs := [.int 0, .int 0, .ref q1, .null, .null, .null, .null, .int 0, .null, .null, .null, .null, .int 0, .int 0, .int 0, .int 0, .int 0, .int 0, .null, .int 0, .int 0, .int 0, .int 0, .null, .null, .null, .null, .null, .null, .null]) (tk := 0) (idx := 13) (N' := 8) hE hx hb (by decide) hown hin hW0 hsz hg hP hD hS (lv_at hl 0 rfl) cn_6_d12 (fun z => lv_bipush hx hb cn_6_d13 (v := 8) rfl z) cn_6_d15 cn_6_d17 rfl rfl rfl aw_0 (by decide) rfl (by decide) (Nat.le_of_ble_eq_true rfl) (Nat.le_of_ble_eq_true rfl) (Nat.le_of_ble_eq_true rfl) (Nat.le_of_ble_eq_true rfl) rfl cn_6_l13 (fun _ => rfl) (fun _ => rfl) (fun q2 H locs hP hD hS => ?_)
  have hg := ct_g1 (y := ct_ar q2 (cA 0) 8) (z := (h0, Sum.inr (6, [.int 0, .int 0, .ref q1, .ref q2, .null, .null, .null, .int 0, .null, .null, .null, .null, .int 0, .int 0, .int 0, .int 0, .int 0, .int 0, .null, .int 0, .int 0, .int 0, .int 0, .null, .null, .null, .null, .null, .null, .null]))) hg
  have hP : va_P (dC, dI) ab_cls ((((ws ++ [ct_ar q1 (cA 0) 8]).set k (h0, Sum.inr (6, [.int 0, .int 0, .ref q1, .null, .null, .null, .null, .int 0, .null, .null, .null, .null, .int 0, .int 0, .int 0, .int 0, .int 0, .int 0, .null, .int 0, .int 0, .int 0, .int 0, .null, .null, .null, .null, .null, .null, .null]))) ++ [ct_ar q2 (cA 0) 8]).set k (h0, Sum.inr (6, [.int 0, .int 0, .ref q1, .ref q2, .null, .null, .null, .int 0, .null, .null, .null, .null, .int 0, .int 0, .int 0, .int 0, .int 0, .int 0, .null, .int 0, .int 0, .int 0, .int 0, .null, .null, .null, .null, .null, .null, .null]))) H := hP
  have hD : va_D (fun q => s0.heap.size ≤ q) ((((ws ++ [ct_ar q1 (cA 0) 8]).set k (h0, Sum.inr (6, [.int 0, .int 0, .ref q1, .null, .null, .null, .null, .int 0, .null, .null, .null, .null, .int 0, .int 0, .int 0, .int 0, .int 0, .int 0, .null, .int 0, .int 0, .int 0, .int 0, .null, .null, .null, .null, .null, .null, .null]))) ++ [ct_ar q2 (cA 0) 8]).set k (h0, Sum.inr (6, [.int 0, .int 0, .ref q1, .ref q2, .null, .null, .null, .int 0, .null, .null, .null, .null, .int 0, .int 0, .int 0, .int 0, .int 0, .int 0, .null, .int 0, .int 0, .int 0, .int 0, .null, .null, .null, .null, .null, .null, .null]))) := hD
  refine ct_arr (ws := ((((ws ++ [ct_ar q1 (cA 0) 8]).set k (h0, Sum.inr (6, [.int 0, .int 0, .ref q1, .null, .null, .null, .null, .int 0, .null, .null, .null, .null, .int 0, .int 0, .int 0, .int 0, .int 0, .int 0, .null, .int 0, .int 0, .int 0, .int 0, .null, .null, .null, .null, .null, .null, .null]))) ++ [ct_ar q2 (cA 0) 8]).set k (h0, Sum.inr (6, [.int 0, .int 0, .ref q1, .ref q2, .null, .null, .null, .int 0, .null, .null, .null, .null, .int 0, .int 0, .int 0, .int 0, .int 0, .int 0, .null, .int 0, .int 0, .int 0, .int 0, .null, .null, .null, .null, .null, .null, .null])))) (k := k) (h0 := h0) (f := 4) (fs := [.int 0, .int 0, .ref q1, .ref q2, .null, .null, .null, .int 0, .null, .null, .null, .null, .int 0, .int 0, .int 0, .int 0, .int 0, .int 0, .null, .int 0, .int 0, .int 0, .int 0, .null, .null, .null, .null, .null, .null, .null]) (tk := 0) (idx := 16) (N' := 32) hE hx hb (by decide) hown hin hW0 hsz hg hP hD hS (lv_at hl 0 rfl) cn_6_d20 (fun z => lv_bipush hx hb cn_6_d21 (v := 32) rfl z) cn_6_d23 cn_6_d25 rfl rfl rfl aw_0 (by decide) rfl (by decide) (Nat.le_of_ble_eq_true rfl) (Nat.le_of_ble_eq_true rfl) (Nat.le_of_ble_eq_true rfl) (Nat.le_of_ble_eq_true rfl) rfl cn_6_l16 (fun _ => rfl) (fun _ => rfl) (fun q3 H locs hP hD hS => ?_)
  have hg := ct_g1 (y := ct_ar q3 (cA 0) 32) (z := (h0, Sum.inr (6, [.int 0, .int 0, .ref q1, .ref q2, .ref q3, .null, .null, .int 0, .null, .null, .null, .null, .int 0, .int 0, .int 0, .int 0, .int 0, .int 0, .null, .int 0, .int 0, .int 0, .int 0, .null, .null, .null, .null, .null, .null, .null]))) hg
  have hP : va_P (dC, dI) ab_cls ((((((ws ++ [ct_ar q1 (cA 0) 8]).set k (h0, Sum.inr (6, [.int 0, .int 0, .ref q1, .null, .null, .null, .null, .int 0, .null, .null, .null, .null, .int 0, .int 0, .int 0, .int 0, .int 0, .int 0, .null, .int 0, .int 0, .int 0, .int 0, .null, .null, .null, .null, .null, .null, .null]))) ++ [ct_ar q2 (cA 0) 8]).set k (h0, Sum.inr (6, [.int 0, .int 0, .ref q1, .ref q2, .null, .null, .null, .int 0, .null, .null, .null, .null, .int 0, .int 0, .int 0, .int 0, .int 0, .int 0, .null, .int 0, .int 0, .int 0, .int 0, .null, .null, .null, .null, .null, .null, .null]))) ++ [ct_ar q3 (cA 0) 32]).set k (h0, Sum.inr (6, [.int 0, .int 0, .ref q1, .ref q2, .ref q3, .null, .null, .int 0, .null, .null, .null, .null, .int 0, .int 0, .int 0, .int 0, .int 0, .int 0, .null, .int 0, .int 0, .int 0, .int 0, .null, .null, .null, .null, .null, .null, .null]))) H := hP
  have hD : va_D (fun q => s0.heap.size ≤ q) ((((((ws ++ [ct_ar q1 (cA 0) 8]).set k (h0, Sum.inr (6, [.int 0, .int 0, .ref q1, .null, .null, .null, .null, .int 0, .null, .null, .null, .null, .int 0, .int 0, .int 0, .int 0, .int 0, .int 0, .null, .int 0, .int 0, .int 0, .int 0, .null, .null, .null, .null, .null, .null, .null]))) ++ [ct_ar q2 (cA 0) 8]).set k (h0, Sum.inr (6, [.int 0, .int 0, .ref q1, .ref q2, .null, .null, .null, .int 0, .null, .null, .null, .null, .int 0, .int 0, .int 0, .int 0, .int 0, .int 0, .null, .int 0, .int 0, .int 0, .int 0, .null, .null, .null, .null, .null, .null, .null]))) ++ [ct_ar q3 (cA 0) 32]).set k (h0, Sum.inr (6, [.int 0, .int 0, .ref q1, .ref q2, .ref q3, .null, .null, .int 0, .null, .null, .null, .null, .int 0, .int 0, .int 0, .int 0, .int 0, .int 0, .null, .int 0, .int 0, .int 0, .int 0, .null, .null, .null, .null, .null, .null, .null]))) := hD
  refine ct_arr (ws := ((((((ws ++ [ct_ar q1 (cA 0) 8]).set k (h0, Sum.inr (6, [.int 0, .int 0, .ref q1, .null, .null, .null, .null, .int 0, .null, .null, .null, .null, .int 0, .int 0, .int 0, .int 0, .int 0, .int 0, .null, .int 0, .int 0, .int 0, .int 0, .null, .null, .null, .null, .null, .null, .null]))) ++ [ct_ar q2 (cA 0) 8]).set k (h0, Sum.inr (6, [.int 0, .int 0, .ref q1, .ref q2, .null, .null, .null, .int 0, .null, .null, .null, .null, .int 0, .int 0, .int 0, .int 0, .int 0, .int 0, .null, .int 0, .int 0, .int 0, .int 0, .null, .null, .null, .null, .null, .null, .null]))) ++ [ct_ar q3 (cA 0) 32]).set k (h0, Sum.inr (6, [.int 0, .int 0, .ref q1, .ref q2, .ref q3, .null, .null, .int 0, .null, .null, .null, .null, .int 0, .int 0, .int 0, .int 0, .int 0, .int 0, .null, .int 0, .int 0, .int 0, .int 0, .null, .null, .null, .null, .null, .null, .null])))) (k := k) (h0 := h0) (f := 5) (fs := [.int 0, .int 0, .ref q1, .ref q2, .ref q3, .null, .null, .int 0, .null, .null, .null, .null, .int 0, .int 0, .int 0, .int 0, .int 0, .int 0, .null, .int 0, .int 0, .int 0, .int 0, .null, .null, .null, .null, .null, .null, .null]) (tk := 1) (idx := 19) (N' := 4) hE hx hb (by decide) hown hin hW0 hsz hg hP hD hS (lv_at hl 0 rfl) cn_6_d28 (fun z => lv_iconst hx hb cn_6_d29 (v := 4) rfl z) cn_6_d30 cn_6_d32 rfl rfl rfl aw_1 (by decide) rfl (by decide) (Nat.le_of_ble_eq_true rfl) (Nat.le_of_ble_eq_true rfl) (Nat.le_of_ble_eq_true rfl) (Nat.le_of_ble_eq_true rfl) rfl cn_6_l19 (fun _ => rfl) (fun _ => rfl) (fun q4 H locs hP hD hS => ?_)
  have hg := ct_g1 (y := ct_ar q4 (cA 1) 4) (z := (h0, Sum.inr (6, [.int 0, .int 0, .ref q1, .ref q2, .ref q3, .ref q4, .null, .int 0, .null, .null, .null, .null, .int 0, .int 0, .int 0, .int 0, .int 0, .int 0, .null, .int 0, .int 0, .int 0, .int 0, .null, .null, .null, .null, .null, .null, .null]))) hg
  have hP : va_P (dC, dI) ab_cls ((((((((ws ++ [ct_ar q1 (cA 0) 8]).set k (h0, Sum.inr (6, [.int 0, .int 0, .ref q1, .null, .null, .null, .null, .int 0, .null, .null, .null, .null, .int 0, .int 0, .int 0, .int 0, .int 0, .int 0, .null, .int 0, .int 0, .int 0, .int 0, .null, .null, .null, .null, .null, .null, .null]))) ++ [ct_ar q2 (cA 0) 8]).set k (h0, Sum.inr (6, [.int 0, .int 0, .ref q1, .ref q2, .null, .null, .null, .int 0, .null, .null, .null, .null, .int 0, .int 0, .int 0, .int 0, .int 0, .int 0, .null, .int 0, .int 0, .int 0, .int 0, .null, .null, .null, .null, .null, .null, .null]))) ++ [ct_ar q3 (cA 0) 32]).set k (h0, Sum.inr (6, [.int 0, .int 0, .ref q1, .ref q2, .ref q3, .null, .null, .int 0, .null, .null, .null, .null, .int 0, .int 0, .int 0, .int 0, .int 0, .int 0, .null, .int 0, .int 0, .int 0, .int 0, .null, .null, .null, .null, .null, .null, .null]))) ++ [ct_ar q4 (cA 1) 4]).set k (h0, Sum.inr (6, [.int 0, .int 0, .ref q1, .ref q2, .ref q3, .ref q4, .null, .int 0, .null, .null, .null, .null, .int 0, .int 0, .int 0, .int 0, .int 0, .int 0, .null, .int 0, .int 0, .int 0, .int 0, .null, .null, .null, .null, .null, .null, .null]))) H := hP
  have hD : va_D (fun q => s0.heap.size ≤ q) ((((((((ws ++ [ct_ar q1 (cA 0) 8]).set k (h0, Sum.inr (6, [.int 0, .int 0, .ref q1, .null, .null, .null, .null, .int 0, .null, .null, .null, .null, .int 0, .int 0, .int 0, .int 0, .int 0, .int 0, .null, .int 0, .int 0, .int 0, .int 0, .null, .null, .null, .null, .null, .null, .null]))) ++ [ct_ar q2 (cA 0) 8]).set k (h0, Sum.inr (6, [.int 0, .int 0, .ref q1, .ref q2, .null, .null, .null, .int 0, .null, .null, .null, .null, .int 0, .int 0, .int 0, .int 0, .int 0, .int 0, .null, .int 0, .int 0, .int 0, .int 0, .null, .null, .null, .null, .null, .null, .null]))) ++ [ct_ar q3 (cA 0) 32]).set k (h0, Sum.inr (6, [.int 0, .int 0, .ref q1, .ref q2, .ref q3, .null, .null, .int 0, .null, .null, .null, .null, .int 0, .int 0, .int 0, .int 0, .int 0, .int 0, .null, .int 0, .int 0, .int 0, .int 0, .null, .null, .null, .null, .null, .null, .null]))) ++ [ct_ar q4 (cA 1) 4]).set k (h0, Sum.inr (6, [.int 0, .int 0, .ref q1, .ref q2, .ref q3, .ref q4, .null, .int 0, .null, .null, .null, .null, .int 0, .int 0, .int 0, .int 0, .int 0, .int 0, .null, .int 0, .int 0, .int 0, .int 0, .null, .null, .null, .null, .null, .null, .null]))) := hD
  refine ct_arr (ws := ((((((((ws ++ [ct_ar q1 (cA 0) 8]).set k (h0, Sum.inr (6, [.int 0, .int 0, .ref q1, .null, .null, .null, .null, .int 0, .null, .null, .null, .null, .int 0, .int 0, .int 0, .int 0, .int 0, .int 0, .null, .int 0, .int 0, .int 0, .int 0, .null, .null, .null, .null, .null, .null, .null]))) ++ [ct_ar q2 (cA 0) 8]).set k (h0, Sum.inr (6, [.int 0, .int 0, .ref q1, .ref q2, .null, .null, .null, .int 0, .null, .null, .null, .null, .int 0, .int 0, .int 0, .int 0, .int 0, .int 0, .null, .int 0, .int 0, .int 0, .int 0, .null, .null, .null, .null, .null, .null, .null]))) ++ [ct_ar q3 (cA 0) 32]).set k (h0, Sum.inr (6, [.int 0, .int 0, .ref q1, .ref q2, .ref q3, .null, .null, .int 0, .null, .null, .null, .null, .int 0, .int 0, .int 0, .int 0, .int 0, .int 0, .null, .int 0, .int 0, .int 0, .int 0, .null, .null, .null, .null, .null, .null, .null]))) ++ [ct_ar q4 (cA 1) 4]).set k (h0, Sum.inr (6, [.int 0, .int 0, .ref q1, .ref q2, .ref q3, .ref q4, .null, .int 0, .null, .null, .null, .null, .int 0, .int 0, .int 0, .int 0, .int 0, .int 0, .null, .int 0, .int 0, .int 0, .int 0, .null, .null, .null, .null, .null, .null, .null])))) (k := k) (h0 := h0) (f := 6) (fs := [.int 0, .int 0, .ref q1, .ref q2, .ref q3, .ref q4, .null, .int 0, .null, .null, .null, .null, .int 0, .int 0, .int 0, .int 0, .int 0, .int 0, .null, .int 0, .int 0, .int 0, .int 0, .null, .null, .null, .null, .null, .null, .null]) (tk := 1) (idx := 23) (N' := 81) hE hx hb (by decide) hown hin hW0 hsz hg hP hD hS (lv_at hl 0 rfl) cn_6_d35 (fun z => lv_bipush hx hb cn_6_d36 (v := 81) rfl z) cn_6_d38 cn_6_d40 rfl rfl rfl aw_1 (by decide) rfl (by decide) (Nat.le_of_ble_eq_true rfl) (Nat.le_of_ble_eq_true rfl) (Nat.le_of_ble_eq_true rfl) (Nat.le_of_ble_eq_true rfl) rfl cn_6_l23 (fun _ => rfl) (fun _ => rfl) (fun q5 H locs hP hD hS => ?_)
  have hg := ct_g1 (y := ct_ar q5 (cA 1) 81) (z := (h0, Sum.inr (6, [.int 0, .int 0, .ref q1, .ref q2, .ref q3, .ref q4, .ref q5, .int 0, .null, .null, .null, .null, .int 0, .int 0, .int 0, .int 0, .int 0, .int 0, .null, .int 0, .int 0, .int 0, .int 0, .null, .null, .null, .null, .null, .null, .null]))) hg
  have hP : va_P (dC, dI) ab_cls ((((((((((ws ++ [ct_ar q1 (cA 0) 8]).set k (h0, Sum.inr (6, [.int 0, .int 0, .ref q1, .null, .null, .null, .null, .int 0, .null, .null, .null, .null, .int 0, .int 0, .int 0, .int 0, .int 0, .int 0, .null, .int 0, .int 0, .int 0, .int 0, .null, .null, .null, .null, .null, .null, .null]))) ++ [ct_ar q2 (cA 0) 8]).set k (h0, Sum.inr (6, [.int 0, .int 0, .ref q1, .ref q2, .null, .null, .null, .int 0, .null, .null, .null, .null, .int 0, .int 0, .int 0, .int 0, .int 0, .int 0, .null, .int 0, .int 0, .int 0, .int 0, .null, .null, .null, .null, .null, .null, .null]))) ++ [ct_ar q3 (cA 0) 32]).set k (h0, Sum.inr (6, [.int 0, .int 0, .ref q1, .ref q2, .ref q3, .null, .null, .int 0, .null, .null, .null, .null, .int 0, .int 0, .int 0, .int 0, .int 0, .int 0, .null, .int 0, .int 0, .int 0, .int 0, .null, .null, .null, .null, .null, .null, .null]))) ++ [ct_ar q4 (cA 1) 4]).set k (h0, Sum.inr (6, [.int 0, .int 0, .ref q1, .ref q2, .ref q3, .ref q4, .null, .int 0, .null, .null, .null, .null, .int 0, .int 0, .int 0, .int 0, .int 0, .int 0, .null, .int 0, .int 0, .int 0, .int 0, .null, .null, .null, .null, .null, .null, .null]))) ++ [ct_ar q5 (cA 1) 81]).set k (h0, Sum.inr (6, [.int 0, .int 0, .ref q1, .ref q2, .ref q3, .ref q4, .ref q5, .int 0, .null, .null, .null, .null, .int 0, .int 0, .int 0, .int 0, .int 0, .int 0, .null, .int 0, .int 0, .int 0, .int 0, .null, .null, .null, .null, .null, .null, .null]))) H := hP
  have hD : va_D (fun q => s0.heap.size ≤ q) ((((((((((ws ++ [ct_ar q1 (cA 0) 8]).set k (h0, Sum.inr (6, [.int 0, .int 0, .ref q1, .null, .null, .null, .null, .int 0, .null, .null, .null, .null, .int 0, .int 0, .int 0, .int 0, .int 0, .int 0, .null, .int 0, .int 0, .int 0, .int 0, .null, .null, .null, .null, .null, .null, .null]))) ++ [ct_ar q2 (cA 0) 8]).set k (h0, Sum.inr (6, [.int 0, .int 0, .ref q1, .ref q2, .null, .null, .null, .int 0, .null, .null, .null, .null, .int 0, .int 0, .int 0, .int 0, .int 0, .int 0, .null, .int 0, .int 0, .int 0, .int 0, .null, .null, .null, .null, .null, .null, .null]))) ++ [ct_ar q3 (cA 0) 32]).set k (h0, Sum.inr (6, [.int 0, .int 0, .ref q1, .ref q2, .ref q3, .null, .null, .int 0, .null, .null, .null, .null, .int 0, .int 0, .int 0, .int 0, .int 0, .int 0, .null, .int 0, .int 0, .int 0, .int 0, .null, .null, .null, .null, .null, .null, .null]))) ++ [ct_ar q4 (cA 1) 4]).set k (h0, Sum.inr (6, [.int 0, .int 0, .ref q1, .ref q2, .ref q3, .ref q4, .null, .int 0, .null, .null, .null, .null, .int 0, .int 0, .int 0, .int 0, .int 0, .int 0, .null, .int 0, .int 0, .int 0, .int 0, .null, .null, .null, .null, .null, .null, .null]))) ++ [ct_ar q5 (cA 1) 81]).set k (h0, Sum.inr (6, [.int 0, .int 0, .ref q1, .ref q2, .ref q3, .ref q4, .ref q5, .int 0, .null, .null, .null, .null, .int 0, .int 0, .int 0, .int 0, .int 0, .int 0, .null, .int 0, .int 0, .int 0, .int 0, .null, .null, .null, .null, .null, .null, .null]))) := hD
  refine ct_arr (ws := ((((((((((ws ++ [ct_ar q1 (cA 0) 8]).set k (h0, Sum.inr (6, [.int 0, .int 0, .ref q1, .null, .null, .null, .null, .int 0, .null, .null, .null, .null, .int 0, .int 0, .int 0, .int 0, .int 0, .int 0, .null, .int 0, .int 0, .int 0, .int 0, .null, .null, .null, .null, .null, .null, .null]))) ++ [ct_ar q2 (cA 0) 8]).set k (h0, Sum.inr (6, [.int 0, .int 0, .ref q1, .ref q2, .null, .null, .null, .int 0, .null, .null, .null, .null, .int 0, .int 0, .int 0, .int 0, .int 0, .int 0, .null, .int 0, .int 0, .int 0, .int 0, .null, .null, .null, .null, .null, .null, .null]))) ++ [ct_ar q3 (cA 0) 32]).set k (h0, Sum.inr (6, [.int 0, .int 0, .ref q1, .ref q2, .ref q3, .null, .null, .int 0, .null, .null, .null, .null, .int 0, .int 0, .int 0, .int 0, .int 0, .int 0, .null, .int 0, .int 0, .int 0, .int 0, .null, .null, .null, .null, .null, .null, .null]))) ++ [ct_ar q4 (cA 1) 4]).set k (h0, Sum.inr (6, [.int 0, .int 0, .ref q1, .ref q2, .ref q3, .ref q4, .null, .int 0, .null, .null, .null, .null, .int 0, .int 0, .int 0, .int 0, .int 0, .int 0, .null, .int 0, .int 0, .int 0, .int 0, .null, .null, .null, .null, .null, .null, .null]))) ++ [ct_ar q5 (cA 1) 81]).set k (h0, Sum.inr (6, [.int 0, .int 0, .ref q1, .ref q2, .ref q3, .ref q4, .ref q5, .int 0, .null, .null, .null, .null, .int 0, .int 0, .int 0, .int 0, .int 0, .int 0, .null, .int 0, .int 0, .int 0, .int 0, .null, .null, .null, .null, .null, .null, .null])))) (k := k) (h0 := h0) (f := 8) (fs := [.int 0, .int 0, .ref q1, .ref q2, .ref q3, .ref q4, .ref q5, .int 0, .null, .null, .null, .null, .int 0, .int 0, .int 0, .int 0, .int 0, .int 0, .null, .int 0, .int 0, .int 0, .int 0, .null, .null, .null, .null, .null, .null, .null]) (tk := 1) (idx := 26) (N' := 13500) hE hx hb (by decide) hown hin hW0 hsz hg hP hD hS (lv_at hl 0 rfl) cn_6_d43 (fun z => lv_sipush hx hb cn_6_d44 (v := 13500) rfl z) cn_6_d47 cn_6_d49 rfl rfl rfl aw_1 (by decide) rfl (by decide) (Nat.le_of_ble_eq_true rfl) (Nat.le_of_ble_eq_true rfl) (Nat.le_of_ble_eq_true rfl) (Nat.le_of_ble_eq_true rfl) rfl cn_6_l26 (fun _ => rfl) (fun _ => rfl) (fun q6 H locs hP hD hS => ?_)
  have hg := ct_g1 (y := ct_ar q6 (cA 1) 13500) (z := (h0, Sum.inr (6, [.int 0, .int 0, .ref q1, .ref q2, .ref q3, .ref q4, .ref q5, .int 0, .ref q6, .null, .null, .null, .int 0, .int 0, .int 0, .int 0, .int 0, .int 0, .null, .int 0, .int 0, .int 0, .int 0, .null, .null, .null, .null, .null, .null, .null]))) hg
  have hP : va_P (dC, dI) ab_cls ((((((((((((ws ++ [ct_ar q1 (cA 0) 8]).set k (h0, Sum.inr (6, [.int 0, .int 0, .ref q1, .null, .null, .null, .null, .int 0, .null, .null, .null, .null, .int 0, .int 0, .int 0, .int 0, .int 0, .int 0, .null, .int 0, .int 0, .int 0, .int 0, .null, .null, .null, .null, .null, .null, .null]))) ++ [ct_ar q2 (cA 0) 8]).set k (h0, Sum.inr (6, [.int 0, .int 0, .ref q1, .ref q2, .null, .null, .null, .int 0, .null, .null, .null, .null, .int 0, .int 0, .int 0, .int 0, .int 0, .int 0, .null, .int 0, .int 0, .int 0, .int 0, .null, .null, .null, .null, .null, .null, .null]))) ++ [ct_ar q3 (cA 0) 32]).set k (h0, Sum.inr (6, [.int 0, .int 0, .ref q1, .ref q2, .ref q3, .null, .null, .int 0, .null, .null, .null, .null, .int 0, .int 0, .int 0, .int 0, .int 0, .int 0, .null, .int 0, .int 0, .int 0, .int 0, .null, .null, .null, .null, .null, .null, .null]))) ++ [ct_ar q4 (cA 1) 4]).set k (h0, Sum.inr (6, [.int 0, .int 0, .ref q1, .ref q2, .ref q3, .ref q4, .null, .int 0, .null, .null, .null, .null, .int 0, .int 0, .int 0, .int 0, .int 0, .int 0, .null, .int 0, .int 0, .int 0, .int 0, .null, .null, .null, .null, .null, .null, .null]))) ++ [ct_ar q5 (cA 1) 81]).set k (h0, Sum.inr (6, [.int 0, .int 0, .ref q1, .ref q2, .ref q3, .ref q4, .ref q5, .int 0, .null, .null, .null, .null, .int 0, .int 0, .int 0, .int 0, .int 0, .int 0, .null, .int 0, .int 0, .int 0, .int 0, .null, .null, .null, .null, .null, .null, .null]))) ++ [ct_ar q6 (cA 1) 13500]).set k (h0, Sum.inr (6, [.int 0, .int 0, .ref q1, .ref q2, .ref q3, .ref q4, .ref q5, .int 0, .ref q6, .null, .null, .null, .int 0, .int 0, .int 0, .int 0, .int 0, .int 0, .null, .int 0, .int 0, .int 0, .int 0, .null, .null, .null, .null, .null, .null, .null]))) H := hP
  have hD : va_D (fun q => s0.heap.size ≤ q) ((((((((((((ws ++ [ct_ar q1 (cA 0) 8]).set k (h0, Sum.inr (6, [.int 0, .int 0, .ref q1, .null, .null, .null, .null, .int 0, .null, .null, .null, .null, .int 0, .int 0, .int 0, .int 0, .int 0, .int 0, .null, .int 0, .int 0, .int 0, .int 0, .null, .null, .null, .null, .null, .null, .null]))) ++ [ct_ar q2 (cA 0) 8]).set k (h0, Sum.inr (6, [.int 0, .int 0, .ref q1, .ref q2, .null, .null, .null, .int 0, .null, .null, .null, .null, .int 0, .int 0, .int 0, .int 0, .int 0, .int 0, .null, .int 0, .int 0, .int 0, .int 0, .null, .null, .null, .null, .null, .null, .null]))) ++ [ct_ar q3 (cA 0) 32]).set k (h0, Sum.inr (6, [.int 0, .int 0, .ref q1, .ref q2, .ref q3, .null, .null, .int 0, .null, .null, .null, .null, .int 0, .int 0, .int 0, .int 0, .int 0, .int 0, .null, .int 0, .int 0, .int 0, .int 0, .null, .null, .null, .null, .null, .null, .null]))) ++ [ct_ar q4 (cA 1) 4]).set k (h0, Sum.inr (6, [.int 0, .int 0, .ref q1, .ref q2, .ref q3, .ref q4, .null, .int 0, .null, .null, .null, .null, .int 0, .int 0, .int 0, .int 0, .int 0, .int 0, .null, .int 0, .int 0, .int 0, .int 0, .null, .null, .null, .null, .null, .null, .null]))) ++ [ct_ar q5 (cA 1) 81]).set k (h0, Sum.inr (6, [.int 0, .int 0, .ref q1, .ref q2, .ref q3, .ref q4, .ref q5, .int 0, .null, .null, .null, .null, .int 0, .int 0, .int 0, .int 0, .int 0, .int 0, .null, .int 0, .int 0, .int 0, .int 0, .null, .null, .null, .null, .null, .null, .null]))) ++ [ct_ar q6 (cA 1) 13500]).set k (h0, Sum.inr (6, [.int 0, .int 0, .ref q1, .ref q2, .ref q3, .ref q4, .ref q5, .int 0, .ref q6, .null, .null, .null, .int 0, .int 0, .int 0, .int 0, .int 0, .int 0, .null, .int 0, .int 0, .int 0, .int 0, .null, .null, .null, .null, .null, .null, .null]))) := hD
  refine ct_arr (ws := ((((((((((((ws ++ [ct_ar q1 (cA 0) 8]).set k (h0, Sum.inr (6, [.int 0, .int 0, .ref q1, .null, .null, .null, .null, .int 0, .null, .null, .null, .null, .int 0, .int 0, .int 0, .int 0, .int 0, .int 0, .null, .int 0, .int 0, .int 0, .int 0, .null, .null, .null, .null, .null, .null, .null]))) ++ [ct_ar q2 (cA 0) 8]).set k (h0, Sum.inr (6, [.int 0, .int 0, .ref q1, .ref q2, .null, .null, .null, .int 0, .null, .null, .null, .null, .int 0, .int 0, .int 0, .int 0, .int 0, .int 0, .null, .int 0, .int 0, .int 0, .int 0, .null, .null, .null, .null, .null, .null, .null]))) ++ [ct_ar q3 (cA 0) 32]).set k (h0, Sum.inr (6, [.int 0, .int 0, .ref q1, .ref q2, .ref q3, .null, .null, .int 0, .null, .null, .null, .null, .int 0, .int 0, .int 0, .int 0, .int 0, .int 0, .null, .int 0, .int 0, .int 0, .int 0, .null, .null, .null, .null, .null, .null, .null]))) ++ [ct_ar q4 (cA 1) 4]).set k (h0, Sum.inr (6, [.int 0, .int 0, .ref q1, .ref q2, .ref q3, .ref q4, .null, .int 0, .null, .null, .null, .null, .int 0, .int 0, .int 0, .int 0, .int 0, .int 0, .null, .int 0, .int 0, .int 0, .int 0, .null, .null, .null, .null, .null, .null, .null]))) ++ [ct_ar q5 (cA 1) 81]).set k (h0, Sum.inr (6, [.int 0, .int 0, .ref q1, .ref q2, .ref q3, .ref q4, .ref q5, .int 0, .null, .null, .null, .null, .int 0, .int 0, .int 0, .int 0, .int 0, .int 0, .null, .int 0, .int 0, .int 0, .int 0, .null, .null, .null, .null, .null, .null, .null]))) ++ [ct_ar q6 (cA 1) 13500]).set k (h0, Sum.inr (6, [.int 0, .int 0, .ref q1, .ref q2, .ref q3, .ref q4, .ref q5, .int 0, .ref q6, .null, .null, .null, .int 0, .int 0, .int 0, .int 0, .int 0, .int 0, .null, .int 0, .int 0, .int 0, .int 0, .null, .null, .null, .null, .null, .null, .null])))) (k := k) (h0 := h0) (f := 9) (fs := [.int 0, .int 0, .ref q1, .ref q2, .ref q3, .ref q4, .ref q5, .int 0, .ref q6, .null, .null, .null, .int 0, .int 0, .int 0, .int 0, .int 0, .int 0, .null, .int 0, .int 0, .int 0, .int 0, .null, .null, .null, .null, .null, .null, .null]) (tk := 0) (idx := 29) (N' := 500) hE hx hb (by decide) hown hin hW0 hsz hg hP hD hS (lv_at hl 0 rfl) cn_6_d52 (fun z => lv_sipush hx hb cn_6_d53 (v := 500) rfl z) cn_6_d56 cn_6_d58 rfl rfl rfl aw_0 (by decide) rfl (by decide) (Nat.le_of_ble_eq_true rfl) (Nat.le_of_ble_eq_true rfl) (Nat.le_of_ble_eq_true rfl) (Nat.le_of_ble_eq_true rfl) rfl cn_6_l29 (fun _ => rfl) (fun _ => rfl) (fun q7 H locs hP hD hS => ?_)
  have hg := ct_g1 (y := ct_ar q7 (cA 0) 500) (z := (h0, Sum.inr (6, [.int 0, .int 0, .ref q1, .ref q2, .ref q3, .ref q4, .ref q5, .int 0, .ref q6, .ref q7, .null, .null, .int 0, .int 0, .int 0, .int 0, .int 0, .int 0, .null, .int 0, .int 0, .int 0, .int 0, .null, .null, .null, .null, .null, .null, .null]))) hg
  have hP : va_P (dC, dI) ab_cls ((((((((((((((ws ++ [ct_ar q1 (cA 0) 8]).set k (h0, Sum.inr (6, [.int 0, .int 0, .ref q1, .null, .null, .null, .null, .int 0, .null, .null, .null, .null, .int 0, .int 0, .int 0, .int 0, .int 0, .int 0, .null, .int 0, .int 0, .int 0, .int 0, .null, .null, .null, .null, .null, .null, .null]))) ++ [ct_ar q2 (cA 0) 8]).set k (h0, Sum.inr (6, [.int 0, .int 0, .ref q1, .ref q2, .null, .null, .null, .int 0, .null, .null, .null, .null, .int 0, .int 0, .int 0, .int 0, .int 0, .int 0, .null, .int 0, .int 0, .int 0, .int 0, .null, .null, .null, .null, .null, .null, .null]))) ++ [ct_ar q3 (cA 0) 32]).set k (h0, Sum.inr (6, [.int 0, .int 0, .ref q1, .ref q2, .ref q3, .null, .null, .int 0, .null, .null, .null, .null, .int 0, .int 0, .int 0, .int 0, .int 0, .int 0, .null, .int 0, .int 0, .int 0, .int 0, .null, .null, .null, .null, .null, .null, .null]))) ++ [ct_ar q4 (cA 1) 4]).set k (h0, Sum.inr (6, [.int 0, .int 0, .ref q1, .ref q2, .ref q3, .ref q4, .null, .int 0, .null, .null, .null, .null, .int 0, .int 0, .int 0, .int 0, .int 0, .int 0, .null, .int 0, .int 0, .int 0, .int 0, .null, .null, .null, .null, .null, .null, .null]))) ++ [ct_ar q5 (cA 1) 81]).set k (h0, Sum.inr (6, [.int 0, .int 0, .ref q1, .ref q2, .ref q3, .ref q4, .ref q5, .int 0, .null, .null, .null, .null, .int 0, .int 0, .int 0, .int 0, .int 0, .int 0, .null, .int 0, .int 0, .int 0, .int 0, .null, .null, .null, .null, .null, .null, .null]))) ++ [ct_ar q6 (cA 1) 13500]).set k (h0, Sum.inr (6, [.int 0, .int 0, .ref q1, .ref q2, .ref q3, .ref q4, .ref q5, .int 0, .ref q6, .null, .null, .null, .int 0, .int 0, .int 0, .int 0, .int 0, .int 0, .null, .int 0, .int 0, .int 0, .int 0, .null, .null, .null, .null, .null, .null, .null]))) ++ [ct_ar q7 (cA 0) 500]).set k (h0, Sum.inr (6, [.int 0, .int 0, .ref q1, .ref q2, .ref q3, .ref q4, .ref q5, .int 0, .ref q6, .ref q7, .null, .null, .int 0, .int 0, .int 0, .int 0, .int 0, .int 0, .null, .int 0, .int 0, .int 0, .int 0, .null, .null, .null, .null, .null, .null, .null]))) H := hP
  have hD : va_D (fun q => s0.heap.size ≤ q) ((((((((((((((ws ++ [ct_ar q1 (cA 0) 8]).set k (h0, Sum.inr (6, [.int 0, .int 0, .ref q1, .null, .null, .null, .null, .int 0, .null, .null, .null, .null, .int 0, .int 0, .int 0, .int 0, .int 0, .int 0, .null, .int 0, .int 0, .int 0, .int 0, .null, .null, .null, .null, .null, .null, .null]))) ++ [ct_ar q2 (cA 0) 8]).set k (h0, Sum.inr (6, [.int 0, .int 0, .ref q1, .ref q2, .null, .null, .null, .int 0, .null, .null, .null, .null, .int 0, .int 0, .int 0, .int 0, .int 0, .int 0, .null, .int 0, .int 0, .int 0, .int 0, .null, .null, .null, .null, .null, .null, .null]))) ++ [ct_ar q3 (cA 0) 32]).set k (h0, Sum.inr (6, [.int 0, .int 0, .ref q1, .ref q2, .ref q3, .null, .null, .int 0, .null, .null, .null, .null, .int 0, .int 0, .int 0, .int 0, .int 0, .int 0, .null, .int 0, .int 0, .int 0, .int 0, .null, .null, .null, .null, .null, .null, .null]))) ++ [ct_ar q4 (cA 1) 4]).set k (h0, Sum.inr (6, [.int 0, .int 0, .ref q1, .ref q2, .ref q3, .ref q4, .null, .int 0, .null, .null, .null, .null, .int 0, .int 0, .int 0, .int 0, .int 0, .int 0, .null, .int 0, .int 0, .int 0, .int 0, .null, .null, .null, .null, .null, .null, .null]))) ++ [ct_ar q5 (cA 1) 81]).set k (h0, Sum.inr (6, [.int 0, .int 0, .ref q1, .ref q2, .ref q3, .ref q4, .ref q5, .int 0, .null, .null, .null, .null, .int 0, .int 0, .int 0, .int 0, .int 0, .int 0, .null, .int 0, .int 0, .int 0, .int 0, .null, .null, .null, .null, .null, .null, .null]))) ++ [ct_ar q6 (cA 1) 13500]).set k (h0, Sum.inr (6, [.int 0, .int 0, .ref q1, .ref q2, .ref q3, .ref q4, .ref q5, .int 0, .ref q6, .null, .null, .null, .int 0, .int 0, .int 0, .int 0, .int 0, .int 0, .null, .int 0, .int 0, .int 0, .int 0, .null, .null, .null, .null, .null, .null, .null]))) ++ [ct_ar q7 (cA 0) 500]).set k (h0, Sum.inr (6, [.int 0, .int 0, .ref q1, .ref q2, .ref q3, .ref q4, .ref q5, .int 0, .ref q6, .ref q7, .null, .null, .int 0, .int 0, .int 0, .int 0, .int 0, .int 0, .null, .int 0, .int 0, .int 0, .int 0, .null, .null, .null, .null, .null, .null, .null]))) := hD
  refine ct_arr (ws := ((((((((((((((ws ++ [ct_ar q1 (cA 0) 8]).set k (h0, Sum.inr (6, [.int 0, .int 0, .ref q1, .null, .null, .null, .null, .int 0, .null, .null, .null, .null, .int 0, .int 0, .int 0, .int 0, .int 0, .int 0, .null, .int 0, .int 0, .int 0, .int 0, .null, .null, .null, .null, .null, .null, .null]))) ++ [ct_ar q2 (cA 0) 8]).set k (h0, Sum.inr (6, [.int 0, .int 0, .ref q1, .ref q2, .null, .null, .null, .int 0, .null, .null, .null, .null, .int 0, .int 0, .int 0, .int 0, .int 0, .int 0, .null, .int 0, .int 0, .int 0, .int 0, .null, .null, .null, .null, .null, .null, .null]))) ++ [ct_ar q3 (cA 0) 32]).set k (h0, Sum.inr (6, [.int 0, .int 0, .ref q1, .ref q2, .ref q3, .null, .null, .int 0, .null, .null, .null, .null, .int 0, .int 0, .int 0, .int 0, .int 0, .int 0, .null, .int 0, .int 0, .int 0, .int 0, .null, .null, .null, .null, .null, .null, .null]))) ++ [ct_ar q4 (cA 1) 4]).set k (h0, Sum.inr (6, [.int 0, .int 0, .ref q1, .ref q2, .ref q3, .ref q4, .null, .int 0, .null, .null, .null, .null, .int 0, .int 0, .int 0, .int 0, .int 0, .int 0, .null, .int 0, .int 0, .int 0, .int 0, .null, .null, .null, .null, .null, .null, .null]))) ++ [ct_ar q5 (cA 1) 81]).set k (h0, Sum.inr (6, [.int 0, .int 0, .ref q1, .ref q2, .ref q3, .ref q4, .ref q5, .int 0, .null, .null, .null, .null, .int 0, .int 0, .int 0, .int 0, .int 0, .int 0, .null, .int 0, .int 0, .int 0, .int 0, .null, .null, .null, .null, .null, .null, .null]))) ++ [ct_ar q6 (cA 1) 13500]).set k (h0, Sum.inr (6, [.int 0, .int 0, .ref q1, .ref q2, .ref q3, .ref q4, .ref q5, .int 0, .ref q6, .null, .null, .null, .int 0, .int 0, .int 0, .int 0, .int 0, .int 0, .null, .int 0, .int 0, .int 0, .int 0, .null, .null, .null, .null, .null, .null, .null]))) ++ [ct_ar q7 (cA 0) 500]).set k (h0, Sum.inr (6, [.int 0, .int 0, .ref q1, .ref q2, .ref q3, .ref q4, .ref q5, .int 0, .ref q6, .ref q7, .null, .null, .int 0, .int 0, .int 0, .int 0, .int 0, .int 0, .null, .int 0, .int 0, .int 0, .int 0, .null, .null, .null, .null, .null, .null, .null])))) (k := k) (h0 := h0) (f := 10) (fs := [.int 0, .int 0, .ref q1, .ref q2, .ref q3, .ref q4, .ref q5, .int 0, .ref q6, .ref q7, .null, .null, .int 0, .int 0, .int 0, .int 0, .int 0, .int 0, .null, .int 0, .int 0, .int 0, .int 0, .null, .null, .null, .null, .null, .null, .null]) (tk := 1) (idx := 32) (N' := 270) hE hx hb (by decide) hown hin hW0 hsz hg hP hD hS (lv_at hl 0 rfl) cn_6_d61 (fun z => lv_sipush hx hb cn_6_d62 (v := 270) rfl z) cn_6_d65 cn_6_d67 rfl rfl rfl aw_1 (by decide) rfl (by decide) (Nat.le_of_ble_eq_true rfl) (Nat.le_of_ble_eq_true rfl) (Nat.le_of_ble_eq_true rfl) (Nat.le_of_ble_eq_true rfl) rfl cn_6_l32 (fun _ => rfl) (fun _ => rfl) (fun q8 H locs hP hD hS => ?_)
  have hg := ct_g1 (y := ct_ar q8 (cA 1) 270) (z := (h0, Sum.inr (6, [.int 0, .int 0, .ref q1, .ref q2, .ref q3, .ref q4, .ref q5, .int 0, .ref q6, .ref q7, .ref q8, .null, .int 0, .int 0, .int 0, .int 0, .int 0, .int 0, .null, .int 0, .int 0, .int 0, .int 0, .null, .null, .null, .null, .null, .null, .null]))) hg
  have hP : va_P (dC, dI) ab_cls ((((((((((((((((ws ++ [ct_ar q1 (cA 0) 8]).set k (h0, Sum.inr (6, [.int 0, .int 0, .ref q1, .null, .null, .null, .null, .int 0, .null, .null, .null, .null, .int 0, .int 0, .int 0, .int 0, .int 0, .int 0, .null, .int 0, .int 0, .int 0, .int 0, .null, .null, .null, .null, .null, .null, .null]))) ++ [ct_ar q2 (cA 0) 8]).set k (h0, Sum.inr (6, [.int 0, .int 0, .ref q1, .ref q2, .null, .null, .null, .int 0, .null, .null, .null, .null, .int 0, .int 0, .int 0, .int 0, .int 0, .int 0, .null, .int 0, .int 0, .int 0, .int 0, .null, .null, .null, .null, .null, .null, .null]))) ++ [ct_ar q3 (cA 0) 32]).set k (h0, Sum.inr (6, [.int 0, .int 0, .ref q1, .ref q2, .ref q3, .null, .null, .int 0, .null, .null, .null, .null, .int 0, .int 0, .int 0, .int 0, .int 0, .int 0, .null, .int 0, .int 0, .int 0, .int 0, .null, .null, .null, .null, .null, .null, .null]))) ++ [ct_ar q4 (cA 1) 4]).set k (h0, Sum.inr (6, [.int 0, .int 0, .ref q1, .ref q2, .ref q3, .ref q4, .null, .int 0, .null, .null, .null, .null, .int 0, .int 0, .int 0, .int 0, .int 0, .int 0, .null, .int 0, .int 0, .int 0, .int 0, .null, .null, .null, .null, .null, .null, .null]))) ++ [ct_ar q5 (cA 1) 81]).set k (h0, Sum.inr (6, [.int 0, .int 0, .ref q1, .ref q2, .ref q3, .ref q4, .ref q5, .int 0, .null, .null, .null, .null, .int 0, .int 0, .int 0, .int 0, .int 0, .int 0, .null, .int 0, .int 0, .int 0, .int 0, .null, .null, .null, .null, .null, .null, .null]))) ++ [ct_ar q6 (cA 1) 13500]).set k (h0, Sum.inr (6, [.int 0, .int 0, .ref q1, .ref q2, .ref q3, .ref q4, .ref q5, .int 0, .ref q6, .null, .null, .null, .int 0, .int 0, .int 0, .int 0, .int 0, .int 0, .null, .int 0, .int 0, .int 0, .int 0, .null, .null, .null, .null, .null, .null, .null]))) ++ [ct_ar q7 (cA 0) 500]).set k (h0, Sum.inr (6, [.int 0, .int 0, .ref q1, .ref q2, .ref q3, .ref q4, .ref q5, .int 0, .ref q6, .ref q7, .null, .null, .int 0, .int 0, .int 0, .int 0, .int 0, .int 0, .null, .int 0, .int 0, .int 0, .int 0, .null, .null, .null, .null, .null, .null, .null]))) ++ [ct_ar q8 (cA 1) 270]).set k (h0, Sum.inr (6, [.int 0, .int 0, .ref q1, .ref q2, .ref q3, .ref q4, .ref q5, .int 0, .ref q6, .ref q7, .ref q8, .null, .int 0, .int 0, .int 0, .int 0, .int 0, .int 0, .null, .int 0, .int 0, .int 0, .int 0, .null, .null, .null, .null, .null, .null, .null]))) H := hP
  have hD : va_D (fun q => s0.heap.size ≤ q) ((((((((((((((((ws ++ [ct_ar q1 (cA 0) 8]).set k (h0, Sum.inr (6, [.int 0, .int 0, .ref q1, .null, .null, .null, .null, .int 0, .null, .null, .null, .null, .int 0, .int 0, .int 0, .int 0, .int 0, .int 0, .null, .int 0, .int 0, .int 0, .int 0, .null, .null, .null, .null, .null, .null, .null]))) ++ [ct_ar q2 (cA 0) 8]).set k (h0, Sum.inr (6, [.int 0, .int 0, .ref q1, .ref q2, .null, .null, .null, .int 0, .null, .null, .null, .null, .int 0, .int 0, .int 0, .int 0, .int 0, .int 0, .null, .int 0, .int 0, .int 0, .int 0, .null, .null, .null, .null, .null, .null, .null]))) ++ [ct_ar q3 (cA 0) 32]).set k (h0, Sum.inr (6, [.int 0, .int 0, .ref q1, .ref q2, .ref q3, .null, .null, .int 0, .null, .null, .null, .null, .int 0, .int 0, .int 0, .int 0, .int 0, .int 0, .null, .int 0, .int 0, .int 0, .int 0, .null, .null, .null, .null, .null, .null, .null]))) ++ [ct_ar q4 (cA 1) 4]).set k (h0, Sum.inr (6, [.int 0, .int 0, .ref q1, .ref q2, .ref q3, .ref q4, .null, .int 0, .null, .null, .null, .null, .int 0, .int 0, .int 0, .int 0, .int 0, .int 0, .null, .int 0, .int 0, .int 0, .int 0, .null, .null, .null, .null, .null, .null, .null]))) ++ [ct_ar q5 (cA 1) 81]).set k (h0, Sum.inr (6, [.int 0, .int 0, .ref q1, .ref q2, .ref q3, .ref q4, .ref q5, .int 0, .null, .null, .null, .null, .int 0, .int 0, .int 0, .int 0, .int 0, .int 0, .null, .int 0, .int 0, .int 0, .int 0, .null, .null, .null, .null, .null, .null, .null]))) ++ [ct_ar q6 (cA 1) 13500]).set k (h0, Sum.inr (6, [.int 0, .int 0, .ref q1, .ref q2, .ref q3, .ref q4, .ref q5, .int 0, .ref q6, .null, .null, .null, .int 0, .int 0, .int 0, .int 0, .int 0, .int 0, .null, .int 0, .int 0, .int 0, .int 0, .null, .null, .null, .null, .null, .null, .null]))) ++ [ct_ar q7 (cA 0) 500]).set k (h0, Sum.inr (6, [.int 0, .int 0, .ref q1, .ref q2, .ref q3, .ref q4, .ref q5, .int 0, .ref q6, .ref q7, .null, .null, .int 0, .int 0, .int 0, .int 0, .int 0, .int 0, .null, .int 0, .int 0, .int 0, .int 0, .null, .null, .null, .null, .null, .null, .null]))) ++ [ct_ar q8 (cA 1) 270]).set k (h0, Sum.inr (6, [.int 0, .int 0, .ref q1, .ref q2, .ref q3, .ref q4, .ref q5, .int 0, .ref q6, .ref q7, .ref q8, .null, .int 0, .int 0, .int 0, .int 0, .int 0, .int 0, .null, .int 0, .int 0, .int 0, .int 0, .null, .null, .null, .null, .null, .null, .null]))) := hD
  refine ct_arr (ws := ((((((((((((((((ws ++ [ct_ar q1 (cA 0) 8]).set k (h0, Sum.inr (6, [.int 0, .int 0, .ref q1, .null, .null, .null, .null, .int 0, .null, .null, .null, .null, .int 0, .int 0, .int 0, .int 0, .int 0, .int 0, .null, .int 0, .int 0, .int 0, .int 0, .null, .null, .null, .null, .null, .null, .null]))) ++ [ct_ar q2 (cA 0) 8]).set k (h0, Sum.inr (6, [.int 0, .int 0, .ref q1, .ref q2, .null, .null, .null, .int 0, .null, .null, .null, .null, .int 0, .int 0, .int 0, .int 0, .int 0, .int 0, .null, .int 0, .int 0, .int 0, .int 0, .null, .null, .null, .null, .null, .null, .null]))) ++ [ct_ar q3 (cA 0) 32]).set k (h0, Sum.inr (6, [.int 0, .int 0, .ref q1, .ref q2, .ref q3, .null, .null, .int 0, .null, .null, .null, .null, .int 0, .int 0, .int 0, .int 0, .int 0, .int 0, .null, .int 0, .int 0, .int 0, .int 0, .null, .null, .null, .null, .null, .null, .null]))) ++ [ct_ar q4 (cA 1) 4]).set k (h0, Sum.inr (6, [.int 0, .int 0, .ref q1, .ref q2, .ref q3, .ref q4, .null, .int 0, .null, .null, .null, .null, .int 0, .int 0, .int 0, .int 0, .int 0, .int 0, .null, .int 0, .int 0, .int 0, .int 0, .null, .null, .null, .null, .null, .null, .null]))) ++ [ct_ar q5 (cA 1) 81]).set k (h0, Sum.inr (6, [.int 0, .int 0, .ref q1, .ref q2, .ref q3, .ref q4, .ref q5, .int 0, .null, .null, .null, .null, .int 0, .int 0, .int 0, .int 0, .int 0, .int 0, .null, .int 0, .int 0, .int 0, .int 0, .null, .null, .null, .null, .null, .null, .null]))) ++ [ct_ar q6 (cA 1) 13500]).set k (h0, Sum.inr (6, [.int 0, .int 0, .ref q1, .ref q2, .ref q3, .ref q4, .ref q5, .int 0, .ref q6, .null, .null, .null, .int 0, .int 0, .int 0, .int 0, .int 0, .int 0, .null, .int 0, .int 0, .int 0, .int 0, .null, .null, .null, .null, .null, .null, .null]))) ++ [ct_ar q7 (cA 0) 500]).set k (h0, Sum.inr (6, [.int 0, .int 0, .ref q1, .ref q2, .ref q3, .ref q4, .ref q5, .int 0, .ref q6, .ref q7, .null, .null, .int 0, .int 0, .int 0, .int 0, .int 0, .int 0, .null, .int 0, .int 0, .int 0, .int 0, .null, .null, .null, .null, .null, .null, .null]))) ++ [ct_ar q8 (cA 1) 270]).set k (h0, Sum.inr (6, [.int 0, .int 0, .ref q1, .ref q2, .ref q3, .ref q4, .ref q5, .int 0, .ref q6, .ref q7, .ref q8, .null, .int 0, .int 0, .int 0, .int 0, .int 0, .int 0, .null, .int 0, .int 0, .int 0, .int 0, .null, .null, .null, .null, .null, .null, .null])))) (k := k) (h0 := h0) (f := 11) (fs := [.int 0, .int 0, .ref q1, .ref q2, .ref q3, .ref q4, .ref q5, .int 0, .ref q6, .ref q7, .ref q8, .null, .int 0, .int 0, .int 0, .int 0, .int 0, .int 0, .null, .int 0, .int 0, .int 0, .int 0, .null, .null, .null, .null, .null, .null, .null]) (tk := 0) (idx := 35) (N' := 270) hE hx hb (by decide) hown hin hW0 hsz hg hP hD hS (lv_at hl 0 rfl) cn_6_d70 (fun z => lv_sipush hx hb cn_6_d71 (v := 270) rfl z) cn_6_d74 cn_6_d76 rfl rfl rfl aw_0 (by decide) rfl (by decide) (Nat.le_of_ble_eq_true rfl) (Nat.le_of_ble_eq_true rfl) (Nat.le_of_ble_eq_true rfl) (Nat.le_of_ble_eq_true rfl) rfl cn_6_l35 (fun _ => rfl) (fun _ => rfl) (fun q9 H locs hP hD hS => ?_)
  have hg := ct_g1 (y := ct_ar q9 (cA 0) 270) (z := (h0, Sum.inr (6, [.int 0, .int 0, .ref q1, .ref q2, .ref q3, .ref q4, .ref q5, .int 0, .ref q6, .ref q7, .ref q8, .ref q9, .int 0, .int 0, .int 0, .int 0, .int 0, .int 0, .null, .int 0, .int 0, .int 0, .int 0, .null, .null, .null, .null, .null, .null, .null]))) hg
  have hP : va_P (dC, dI) ab_cls ((((((((((((((((((ws ++ [ct_ar q1 (cA 0) 8]).set k (h0, Sum.inr (6, [.int 0, .int 0, .ref q1, .null, .null, .null, .null, .int 0, .null, .null, .null, .null, .int 0, .int 0, .int 0, .int 0, .int 0, .int 0, .null, .int 0, .int 0, .int 0, .int 0, .null, .null, .null, .null, .null, .null, .null]))) ++ [ct_ar q2 (cA 0) 8]).set k (h0, Sum.inr (6, [.int 0, .int 0, .ref q1, .ref q2, .null, .null, .null, .int 0, .null, .null, .null, .null, .int 0, .int 0, .int 0, .int 0, .int 0, .int 0, .null, .int 0, .int 0, .int 0, .int 0, .null, .null, .null, .null, .null, .null, .null]))) ++ [ct_ar q3 (cA 0) 32]).set k (h0, Sum.inr (6, [.int 0, .int 0, .ref q1, .ref q2, .ref q3, .null, .null, .int 0, .null, .null, .null, .null, .int 0, .int 0, .int 0, .int 0, .int 0, .int 0, .null, .int 0, .int 0, .int 0, .int 0, .null, .null, .null, .null, .null, .null, .null]))) ++ [ct_ar q4 (cA 1) 4]).set k (h0, Sum.inr (6, [.int 0, .int 0, .ref q1, .ref q2, .ref q3, .ref q4, .null, .int 0, .null, .null, .null, .null, .int 0, .int 0, .int 0, .int 0, .int 0, .int 0, .null, .int 0, .int 0, .int 0, .int 0, .null, .null, .null, .null, .null, .null, .null]))) ++ [ct_ar q5 (cA 1) 81]).set k (h0, Sum.inr (6, [.int 0, .int 0, .ref q1, .ref q2, .ref q3, .ref q4, .ref q5, .int 0, .null, .null, .null, .null, .int 0, .int 0, .int 0, .int 0, .int 0, .int 0, .null, .int 0, .int 0, .int 0, .int 0, .null, .null, .null, .null, .null, .null, .null]))) ++ [ct_ar q6 (cA 1) 13500]).set k (h0, Sum.inr (6, [.int 0, .int 0, .ref q1, .ref q2, .ref q3, .ref q4, .ref q5, .int 0, .ref q6, .null, .null, .null, .int 0, .int 0, .int 0, .int 0, .int 0, .int 0, .null, .int 0, .int 0, .int 0, .int 0, .null, .null, .null, .null, .null, .null, .null]))) ++ [ct_ar q7 (cA 0) 500]).set k (h0, Sum.inr (6, [.int 0, .int 0, .ref q1, .ref q2, .ref q3, .ref q4, .ref q5, .int 0, .ref q6, .ref q7, .null, .null, .int 0, .int 0, .int 0, .int 0, .int 0, .int 0, .null, .int 0, .int 0, .int 0, .int 0, .null, .null, .null, .null, .null, .null, .null]))) ++ [ct_ar q8 (cA 1) 270]).set k (h0, Sum.inr (6, [.int 0, .int 0, .ref q1, .ref q2, .ref q3, .ref q4, .ref q5, .int 0, .ref q6, .ref q7, .ref q8, .null, .int 0, .int 0, .int 0, .int 0, .int 0, .int 0, .null, .int 0, .int 0, .int 0, .int 0, .null, .null, .null, .null, .null, .null, .null]))) ++ [ct_ar q9 (cA 0) 270]).set k (h0, Sum.inr (6, [.int 0, .int 0, .ref q1, .ref q2, .ref q3, .ref q4, .ref q5, .int 0, .ref q6, .ref q7, .ref q8, .ref q9, .int 0, .int 0, .int 0, .int 0, .int 0, .int 0, .null, .int 0, .int 0, .int 0, .int 0, .null, .null, .null, .null, .null, .null, .null]))) H := hP
  have hD : va_D (fun q => s0.heap.size ≤ q) ((((((((((((((((((ws ++ [ct_ar q1 (cA 0) 8]).set k (h0, Sum.inr (6, [.int 0, .int 0, .ref q1, .null, .null, .null, .null, .int 0, .null, .null, .null, .null, .int 0, .int 0, .int 0, .int 0, .int 0, .int 0, .null, .int 0, .int 0, .int 0, .int 0, .null, .null, .null, .null, .null, .null, .null]))) ++ [ct_ar q2 (cA 0) 8]).set k (h0, Sum.inr (6, [.int 0, .int 0, .ref q1, .ref q2, .null, .null, .null, .int 0, .null, .null, .null, .null, .int 0, .int 0, .int 0, .int 0, .int 0, .int 0, .null, .int 0, .int 0, .int 0, .int 0, .null, .null, .null, .null, .null, .null, .null]))) ++ [ct_ar q3 (cA 0) 32]).set k (h0, Sum.inr (6, [.int 0, .int 0, .ref q1, .ref q2, .ref q3, .null, .null, .int 0, .null, .null, .null, .null, .int 0, .int 0, .int 0, .int 0, .int 0, .int 0, .null, .int 0, .int 0, .int 0, .int 0, .null, .null, .null, .null, .null, .null, .null]))) ++ [ct_ar q4 (cA 1) 4]).set k (h0, Sum.inr (6, [.int 0, .int 0, .ref q1, .ref q2, .ref q3, .ref q4, .null, .int 0, .null, .null, .null, .null, .int 0, .int 0, .int 0, .int 0, .int 0, .int 0, .null, .int 0, .int 0, .int 0, .int 0, .null, .null, .null, .null, .null, .null, .null]))) ++ [ct_ar q5 (cA 1) 81]).set k (h0, Sum.inr (6, [.int 0, .int 0, .ref q1, .ref q2, .ref q3, .ref q4, .ref q5, .int 0, .null, .null, .null, .null, .int 0, .int 0, .int 0, .int 0, .int 0, .int 0, .null, .int 0, .int 0, .int 0, .int 0, .null, .null, .null, .null, .null, .null, .null]))) ++ [ct_ar q6 (cA 1) 13500]).set k (h0, Sum.inr (6, [.int 0, .int 0, .ref q1, .ref q2, .ref q3, .ref q4, .ref q5, .int 0, .ref q6, .null, .null, .null, .int 0, .int 0, .int 0, .int 0, .int 0, .int 0, .null, .int 0, .int 0, .int 0, .int 0, .null, .null, .null, .null, .null, .null, .null]))) ++ [ct_ar q7 (cA 0) 500]).set k (h0, Sum.inr (6, [.int 0, .int 0, .ref q1, .ref q2, .ref q3, .ref q4, .ref q5, .int 0, .ref q6, .ref q7, .null, .null, .int 0, .int 0, .int 0, .int 0, .int 0, .int 0, .null, .int 0, .int 0, .int 0, .int 0, .null, .null, .null, .null, .null, .null, .null]))) ++ [ct_ar q8 (cA 1) 270]).set k (h0, Sum.inr (6, [.int 0, .int 0, .ref q1, .ref q2, .ref q3, .ref q4, .ref q5, .int 0, .ref q6, .ref q7, .ref q8, .null, .int 0, .int 0, .int 0, .int 0, .int 0, .int 0, .null, .int 0, .int 0, .int 0, .int 0, .null, .null, .null, .null, .null, .null, .null]))) ++ [ct_ar q9 (cA 0) 270]).set k (h0, Sum.inr (6, [.int 0, .int 0, .ref q1, .ref q2, .ref q3, .ref q4, .ref q5, .int 0, .ref q6, .ref q7, .ref q8, .ref q9, .int 0, .int 0, .int 0, .int 0, .int 0, .int 0, .null, .int 0, .int 0, .int 0, .int 0, .null, .null, .null, .null, .null, .null, .null]))) := hD
  refine ct_int (ws := ((((((((((((((((((ws ++ [ct_ar q1 (cA 0) 8]).set k (h0, Sum.inr (6, [.int 0, .int 0, .ref q1, .null, .null, .null, .null, .int 0, .null, .null, .null, .null, .int 0, .int 0, .int 0, .int 0, .int 0, .int 0, .null, .int 0, .int 0, .int 0, .int 0, .null, .null, .null, .null, .null, .null, .null]))) ++ [ct_ar q2 (cA 0) 8]).set k (h0, Sum.inr (6, [.int 0, .int 0, .ref q1, .ref q2, .null, .null, .null, .int 0, .null, .null, .null, .null, .int 0, .int 0, .int 0, .int 0, .int 0, .int 0, .null, .int 0, .int 0, .int 0, .int 0, .null, .null, .null, .null, .null, .null, .null]))) ++ [ct_ar q3 (cA 0) 32]).set k (h0, Sum.inr (6, [.int 0, .int 0, .ref q1, .ref q2, .ref q3, .null, .null, .int 0, .null, .null, .null, .null, .int 0, .int 0, .int 0, .int 0, .int 0, .int 0, .null, .int 0, .int 0, .int 0, .int 0, .null, .null, .null, .null, .null, .null, .null]))) ++ [ct_ar q4 (cA 1) 4]).set k (h0, Sum.inr (6, [.int 0, .int 0, .ref q1, .ref q2, .ref q3, .ref q4, .null, .int 0, .null, .null, .null, .null, .int 0, .int 0, .int 0, .int 0, .int 0, .int 0, .null, .int 0, .int 0, .int 0, .int 0, .null, .null, .null, .null, .null, .null, .null]))) ++ [ct_ar q5 (cA 1) 81]).set k (h0, Sum.inr (6, [.int 0, .int 0, .ref q1, .ref q2, .ref q3, .ref q4, .ref q5, .int 0, .null, .null, .null, .null, .int 0, .int 0, .int 0, .int 0, .int 0, .int 0, .null, .int 0, .int 0, .int 0, .int 0, .null, .null, .null, .null, .null, .null, .null]))) ++ [ct_ar q6 (cA 1) 13500]).set k (h0, Sum.inr (6, [.int 0, .int 0, .ref q1, .ref q2, .ref q3, .ref q4, .ref q5, .int 0, .ref q6, .null, .null, .null, .int 0, .int 0, .int 0, .int 0, .int 0, .int 0, .null, .int 0, .int 0, .int 0, .int 0, .null, .null, .null, .null, .null, .null, .null]))) ++ [ct_ar q7 (cA 0) 500]).set k (h0, Sum.inr (6, [.int 0, .int 0, .ref q1, .ref q2, .ref q3, .ref q4, .ref q5, .int 0, .ref q6, .ref q7, .null, .null, .int 0, .int 0, .int 0, .int 0, .int 0, .int 0, .null, .int 0, .int 0, .int 0, .int 0, .null, .null, .null, .null, .null, .null, .null]))) ++ [ct_ar q8 (cA 1) 270]).set k (h0, Sum.inr (6, [.int 0, .int 0, .ref q1, .ref q2, .ref q3, .ref q4, .ref q5, .int 0, .ref q6, .ref q7, .ref q8, .null, .int 0, .int 0, .int 0, .int 0, .int 0, .int 0, .null, .int 0, .int 0, .int 0, .int 0, .null, .null, .null, .null, .null, .null, .null]))) ++ [ct_ar q9 (cA 0) 270]).set k (h0, Sum.inr (6, [.int 0, .int 0, .ref q1, .ref q2, .ref q3, .ref q4, .ref q5, .int 0, .ref q6, .ref q7, .ref q8, .ref q9, .int 0, .int 0, .int 0, .int 0, .int 0, .int 0, .null, .int 0, .int 0, .int 0, .int 0, .null, .null, .null, .null, .null, .null, .null])))) (k := k) (h0 := h0) (f := 13) (fs := [.int 0, .int 0, .ref q1, .ref q2, .ref q3, .ref q4, .ref q5, .int 0, .ref q6, .ref q7, .ref q8, .ref q9, .int 0, .int 0, .int 0, .int 0, .int 0, .int 0, .null, .int 0, .int 0, .int 0, .int 0, .null, .null, .null, .null, .null, .null, .null]) (idx := 38) hE hx hb (by decide) hown hW0 hg hP hD hS (lv_at hl 0 rfl) cn_6_d79 cn_6_d80 cn_6_d81 (Nat.le_of_ble_eq_true rfl) (Nat.le_of_ble_eq_true rfl) rfl cn_6_l38 rfl (fun H locs hP hD hS => ?_)
  have hg := ct_g0 (z := (h0, Sum.inr (6, [.int 0, .int 0, .ref q1, .ref q2, .ref q3, .ref q4, .ref q5, .int 0, .ref q6, .ref q7, .ref q8, .ref q9, .int 0, .int (Int32.ofInt (-1)), .int 0, .int 0, .int 0, .int 0, .null, .int 0, .int 0, .int 0, .int 0, .null, .null, .null, .null, .null, .null, .null]))) hg
  have hP : va_P (dC, dI) ab_cls (((((((((((((((((((ws ++ [ct_ar q1 (cA 0) 8]).set k (h0, Sum.inr (6, [.int 0, .int 0, .ref q1, .null, .null, .null, .null, .int 0, .null, .null, .null, .null, .int 0, .int 0, .int 0, .int 0, .int 0, .int 0, .null, .int 0, .int 0, .int 0, .int 0, .null, .null, .null, .null, .null, .null, .null]))) ++ [ct_ar q2 (cA 0) 8]).set k (h0, Sum.inr (6, [.int 0, .int 0, .ref q1, .ref q2, .null, .null, .null, .int 0, .null, .null, .null, .null, .int 0, .int 0, .int 0, .int 0, .int 0, .int 0, .null, .int 0, .int 0, .int 0, .int 0, .null, .null, .null, .null, .null, .null, .null]))) ++ [ct_ar q3 (cA 0) 32]).set k (h0, Sum.inr (6, [.int 0, .int 0, .ref q1, .ref q2, .ref q3, .null, .null, .int 0, .null, .null, .null, .null, .int 0, .int 0, .int 0, .int 0, .int 0, .int 0, .null, .int 0, .int 0, .int 0, .int 0, .null, .null, .null, .null, .null, .null, .null]))) ++ [ct_ar q4 (cA 1) 4]).set k (h0, Sum.inr (6, [.int 0, .int 0, .ref q1, .ref q2, .ref q3, .ref q4, .null, .int 0, .null, .null, .null, .null, .int 0, .int 0, .int 0, .int 0, .int 0, .int 0, .null, .int 0, .int 0, .int 0, .int 0, .null, .null, .null, .null, .null, .null, .null]))) ++ [ct_ar q5 (cA 1) 81]).set k (h0, Sum.inr (6, [.int 0, .int 0, .ref q1, .ref q2, .ref q3, .ref q4, .ref q5, .int 0, .null, .null, .null, .null, .int 0, .int 0, .int 0, .int 0, .int 0, .int 0, .null, .int 0, .int 0, .int 0, .int 0, .null, .null, .null, .null, .null, .null, .null]))) ++ [ct_ar q6 (cA 1) 13500]).set k (h0, Sum.inr (6, [.int 0, .int 0, .ref q1, .ref q2, .ref q3, .ref q4, .ref q5, .int 0, .ref q6, .null, .null, .null, .int 0, .int 0, .int 0, .int 0, .int 0, .int 0, .null, .int 0, .int 0, .int 0, .int 0, .null, .null, .null, .null, .null, .null, .null]))) ++ [ct_ar q7 (cA 0) 500]).set k (h0, Sum.inr (6, [.int 0, .int 0, .ref q1, .ref q2, .ref q3, .ref q4, .ref q5, .int 0, .ref q6, .ref q7, .null, .null, .int 0, .int 0, .int 0, .int 0, .int 0, .int 0, .null, .int 0, .int 0, .int 0, .int 0, .null, .null, .null, .null, .null, .null, .null]))) ++ [ct_ar q8 (cA 1) 270]).set k (h0, Sum.inr (6, [.int 0, .int 0, .ref q1, .ref q2, .ref q3, .ref q4, .ref q5, .int 0, .ref q6, .ref q7, .ref q8, .null, .int 0, .int 0, .int 0, .int 0, .int 0, .int 0, .null, .int 0, .int 0, .int 0, .int 0, .null, .null, .null, .null, .null, .null, .null]))) ++ [ct_ar q9 (cA 0) 270]).set k (h0, Sum.inr (6, [.int 0, .int 0, .ref q1, .ref q2, .ref q3, .ref q4, .ref q5, .int 0, .ref q6, .ref q7, .ref q8, .ref q9, .int 0, .int 0, .int 0, .int 0, .int 0, .int 0, .null, .int 0, .int 0, .int 0, .int 0, .null, .null, .null, .null, .null, .null, .null]))).set k (h0, Sum.inr (6, [.int 0, .int 0, .ref q1, .ref q2, .ref q3, .ref q4, .ref q5, .int 0, .ref q6, .ref q7, .ref q8, .ref q9, .int 0, .int (Int32.ofInt (-1)), .int 0, .int 0, .int 0, .int 0, .null, .int 0, .int 0, .int 0, .int 0, .null, .null, .null, .null, .null, .null, .null]))) H := hP
  have hD : va_D (fun q => s0.heap.size ≤ q) (((((((((((((((((((ws ++ [ct_ar q1 (cA 0) 8]).set k (h0, Sum.inr (6, [.int 0, .int 0, .ref q1, .null, .null, .null, .null, .int 0, .null, .null, .null, .null, .int 0, .int 0, .int 0, .int 0, .int 0, .int 0, .null, .int 0, .int 0, .int 0, .int 0, .null, .null, .null, .null, .null, .null, .null]))) ++ [ct_ar q2 (cA 0) 8]).set k (h0, Sum.inr (6, [.int 0, .int 0, .ref q1, .ref q2, .null, .null, .null, .int 0, .null, .null, .null, .null, .int 0, .int 0, .int 0, .int 0, .int 0, .int 0, .null, .int 0, .int 0, .int 0, .int 0, .null, .null, .null, .null, .null, .null, .null]))) ++ [ct_ar q3 (cA 0) 32]).set k (h0, Sum.inr (6, [.int 0, .int 0, .ref q1, .ref q2, .ref q3, .null, .null, .int 0, .null, .null, .null, .null, .int 0, .int 0, .int 0, .int 0, .int 0, .int 0, .null, .int 0, .int 0, .int 0, .int 0, .null, .null, .null, .null, .null, .null, .null]))) ++ [ct_ar q4 (cA 1) 4]).set k (h0, Sum.inr (6, [.int 0, .int 0, .ref q1, .ref q2, .ref q3, .ref q4, .null, .int 0, .null, .null, .null, .null, .int 0, .int 0, .int 0, .int 0, .int 0, .int 0, .null, .int 0, .int 0, .int 0, .int 0, .null, .null, .null, .null, .null, .null, .null]))) ++ [ct_ar q5 (cA 1) 81]).set k (h0, Sum.inr (6, [.int 0, .int 0, .ref q1, .ref q2, .ref q3, .ref q4, .ref q5, .int 0, .null, .null, .null, .null, .int 0, .int 0, .int 0, .int 0, .int 0, .int 0, .null, .int 0, .int 0, .int 0, .int 0, .null, .null, .null, .null, .null, .null, .null]))) ++ [ct_ar q6 (cA 1) 13500]).set k (h0, Sum.inr (6, [.int 0, .int 0, .ref q1, .ref q2, .ref q3, .ref q4, .ref q5, .int 0, .ref q6, .null, .null, .null, .int 0, .int 0, .int 0, .int 0, .int 0, .int 0, .null, .int 0, .int 0, .int 0, .int 0, .null, .null, .null, .null, .null, .null, .null]))) ++ [ct_ar q7 (cA 0) 500]).set k (h0, Sum.inr (6, [.int 0, .int 0, .ref q1, .ref q2, .ref q3, .ref q4, .ref q5, .int 0, .ref q6, .ref q7, .null, .null, .int 0, .int 0, .int 0, .int 0, .int 0, .int 0, .null, .int 0, .int 0, .int 0, .int 0, .null, .null, .null, .null, .null, .null, .null]))) ++ [ct_ar q8 (cA 1) 270]).set k (h0, Sum.inr (6, [.int 0, .int 0, .ref q1, .ref q2, .ref q3, .ref q4, .ref q5, .int 0, .ref q6, .ref q7, .ref q8, .null, .int 0, .int 0, .int 0, .int 0, .int 0, .int 0, .null, .int 0, .int 0, .int 0, .int 0, .null, .null, .null, .null, .null, .null, .null]))) ++ [ct_ar q9 (cA 0) 270]).set k (h0, Sum.inr (6, [.int 0, .int 0, .ref q1, .ref q2, .ref q3, .ref q4, .ref q5, .int 0, .ref q6, .ref q7, .ref q8, .ref q9, .int 0, .int 0, .int 0, .int 0, .int 0, .int 0, .null, .int 0, .int 0, .int 0, .int 0, .null, .null, .null, .null, .null, .null, .null]))).set k (h0, Sum.inr (6, [.int 0, .int 0, .ref q1, .ref q2, .ref q3, .ref q4, .ref q5, .int 0, .ref q6, .ref q7, .ref q8, .ref q9, .int 0, .int (Int32.ofInt (-1)), .int 0, .int 0, .int 0, .int 0, .null, .int 0, .int 0, .int 0, .int 0, .null, .null, .null, .null, .null, .null, .null]))) := hD
  refine ct_int (ws := (((((((((((((((((((ws ++ [ct_ar q1 (cA 0) 8]).set k (h0, Sum.inr (6, [.int 0, .int 0, .ref q1, .null, .null, .null, .null, .int 0, .null, .null, .null, .null, .int 0, .int 0, .int 0, .int 0, .int 0, .int 0, .null, .int 0, .int 0, .int 0, .int 0, .null, .null, .null, .null, .null, .null, .null]))) ++ [ct_ar q2 (cA 0) 8]).set k (h0, Sum.inr (6, [.int 0, .int 0, .ref q1, .ref q2, .null, .null, .null, .int 0, .null, .null, .null, .null, .int 0, .int 0, .int 0, .int 0, .int 0, .int 0, .null, .int 0, .int 0, .int 0, .int 0, .null, .null, .null, .null, .null, .null, .null]))) ++ [ct_ar q3 (cA 0) 32]).set k (h0, Sum.inr (6, [.int 0, .int 0, .ref q1, .ref q2, .ref q3, .null, .null, .int 0, .null, .null, .null, .null, .int 0, .int 0, .int 0, .int 0, .int 0, .int 0, .null, .int 0, .int 0, .int 0, .int 0, .null, .null, .null, .null, .null, .null, .null]))) ++ [ct_ar q4 (cA 1) 4]).set k (h0, Sum.inr (6, [.int 0, .int 0, .ref q1, .ref q2, .ref q3, .ref q4, .null, .int 0, .null, .null, .null, .null, .int 0, .int 0, .int 0, .int 0, .int 0, .int 0, .null, .int 0, .int 0, .int 0, .int 0, .null, .null, .null, .null, .null, .null, .null]))) ++ [ct_ar q5 (cA 1) 81]).set k (h0, Sum.inr (6, [.int 0, .int 0, .ref q1, .ref q2, .ref q3, .ref q4, .ref q5, .int 0, .null, .null, .null, .null, .int 0, .int 0, .int 0, .int 0, .int 0, .int 0, .null, .int 0, .int 0, .int 0, .int 0, .null, .null, .null, .null, .null, .null, .null]))) ++ [ct_ar q6 (cA 1) 13500]).set k (h0, Sum.inr (6, [.int 0, .int 0, .ref q1, .ref q2, .ref q3, .ref q4, .ref q5, .int 0, .ref q6, .null, .null, .null, .int 0, .int 0, .int 0, .int 0, .int 0, .int 0, .null, .int 0, .int 0, .int 0, .int 0, .null, .null, .null, .null, .null, .null, .null]))) ++ [ct_ar q7 (cA 0) 500]).set k (h0, Sum.inr (6, [.int 0, .int 0, .ref q1, .ref q2, .ref q3, .ref q4, .ref q5, .int 0, .ref q6, .ref q7, .null, .null, .int 0, .int 0, .int 0, .int 0, .int 0, .int 0, .null, .int 0, .int 0, .int 0, .int 0, .null, .null, .null, .null, .null, .null, .null]))) ++ [ct_ar q8 (cA 1) 270]).set k (h0, Sum.inr (6, [.int 0, .int 0, .ref q1, .ref q2, .ref q3, .ref q4, .ref q5, .int 0, .ref q6, .ref q7, .ref q8, .null, .int 0, .int 0, .int 0, .int 0, .int 0, .int 0, .null, .int 0, .int 0, .int 0, .int 0, .null, .null, .null, .null, .null, .null, .null]))) ++ [ct_ar q9 (cA 0) 270]).set k (h0, Sum.inr (6, [.int 0, .int 0, .ref q1, .ref q2, .ref q3, .ref q4, .ref q5, .int 0, .ref q6, .ref q7, .ref q8, .ref q9, .int 0, .int 0, .int 0, .int 0, .int 0, .int 0, .null, .int 0, .int 0, .int 0, .int 0, .null, .null, .null, .null, .null, .null, .null]))).set k (h0, Sum.inr (6, [.int 0, .int 0, .ref q1, .ref q2, .ref q3, .ref q4, .ref q5, .int 0, .ref q6, .ref q7, .ref q8, .ref q9, .int 0, .int (Int32.ofInt (-1)), .int 0, .int 0, .int 0, .int 0, .null, .int 0, .int 0, .int 0, .int 0, .null, .null, .null, .null, .null, .null, .null])))) (k := k) (h0 := h0) (f := 14) (fs := [.int 0, .int 0, .ref q1, .ref q2, .ref q3, .ref q4, .ref q5, .int 0, .ref q6, .ref q7, .ref q8, .ref q9, .int 0, .int (Int32.ofInt (-1)), .int 0, .int 0, .int 0, .int 0, .null, .int 0, .int 0, .int 0, .int 0, .null, .null, .null, .null, .null, .null, .null]) (idx := 42) hE hx hb (by decide) hown hW0 hg hP hD hS (lv_at hl 0 rfl) cn_6_d84 cn_6_d85 cn_6_d86 (Nat.le_of_ble_eq_true rfl) (Nat.le_of_ble_eq_true rfl) rfl cn_6_l42 rfl (fun H locs hP hD hS => ?_)
  have hg := ct_g0 (z := (h0, Sum.inr (6, [.int 0, .int 0, .ref q1, .ref q2, .ref q3, .ref q4, .ref q5, .int 0, .ref q6, .ref q7, .ref q8, .ref q9, .int 0, .int (Int32.ofInt (-1)), .int (Int32.ofInt (-1)), .int 0, .int 0, .int 0, .null, .int 0, .int 0, .int 0, .int 0, .null, .null, .null, .null, .null, .null, .null]))) hg
  have hP : va_P (dC, dI) ab_cls ((((((((((((((((((((ws ++ [ct_ar q1 (cA 0) 8]).set k (h0, Sum.inr (6, [.int 0, .int 0, .ref q1, .null, .null, .null, .null, .int 0, .null, .null, .null, .null, .int 0, .int 0, .int 0, .int 0, .int 0, .int 0, .null, .int 0, .int 0, .int 0, .int 0, .null, .null, .null, .null, .null, .null, .null]))) ++ [ct_ar q2 (cA 0) 8]).set k (h0, Sum.inr (6, [.int 0, .int 0, .ref q1, .ref q2, .null, .null, .null, .int 0, .null, .null, .null, .null, .int 0, .int 0, .int 0, .int 0, .int 0, .int 0, .null, .int 0, .int 0, .int 0, .int 0, .null, .null, .null, .null, .null, .null, .null]))) ++ [ct_ar q3 (cA 0) 32]).set k (h0, Sum.inr (6, [.int 0, .int 0, .ref q1, .ref q2, .ref q3, .null, .null, .int 0, .null, .null, .null, .null, .int 0, .int 0, .int 0, .int 0, .int 0, .int 0, .null, .int 0, .int 0, .int 0, .int 0, .null, .null, .null, .null, .null, .null, .null]))) ++ [ct_ar q4 (cA 1) 4]).set k (h0, Sum.inr (6, [.int 0, .int 0, .ref q1, .ref q2, .ref q3, .ref q4, .null, .int 0, .null, .null, .null, .null, .int 0, .int 0, .int 0, .int 0, .int 0, .int 0, .null, .int 0, .int 0, .int 0, .int 0, .null, .null, .null, .null, .null, .null, .null]))) ++ [ct_ar q5 (cA 1) 81]).set k (h0, Sum.inr (6, [.int 0, .int 0, .ref q1, .ref q2, .ref q3, .ref q4, .ref q5, .int 0, .null, .null, .null, .null, .int 0, .int 0, .int 0, .int 0, .int 0, .int 0, .null, .int 0, .int 0, .int 0, .int 0, .null, .null, .null, .null, .null, .null, .null]))) ++ [ct_ar q6 (cA 1) 13500]).set k (h0, Sum.inr (6, [.int 0, .int 0, .ref q1, .ref q2, .ref q3, .ref q4, .ref q5, .int 0, .ref q6, .null, .null, .null, .int 0, .int 0, .int 0, .int 0, .int 0, .int 0, .null, .int 0, .int 0, .int 0, .int 0, .null, .null, .null, .null, .null, .null, .null]))) ++ [ct_ar q7 (cA 0) 500]).set k (h0, Sum.inr (6, [.int 0, .int 0, .ref q1, .ref q2, .ref q3, .ref q4, .ref q5, .int 0, .ref q6, .ref q7, .null, .null, .int 0, .int 0, .int 0, .int 0, .int 0, .int 0, .null, .int 0, .int 0, .int 0, .int 0, .null, .null, .null, .null, .null, .null, .null]))) ++ [ct_ar q8 (cA 1) 270]).set k (h0, Sum.inr (6, [.int 0, .int 0, .ref q1, .ref q2, .ref q3, .ref q4, .ref q5, .int 0, .ref q6, .ref q7, .ref q8, .null, .int 0, .int 0, .int 0, .int 0, .int 0, .int 0, .null, .int 0, .int 0, .int 0, .int 0, .null, .null, .null, .null, .null, .null, .null]))) ++ [ct_ar q9 (cA 0) 270]).set k (h0, Sum.inr (6, [.int 0, .int 0, .ref q1, .ref q2, .ref q3, .ref q4, .ref q5, .int 0, .ref q6, .ref q7, .ref q8, .ref q9, .int 0, .int 0, .int 0, .int 0, .int 0, .int 0, .null, .int 0, .int 0, .int 0, .int 0, .null, .null, .null, .null, .null, .null, .null]))).set k (h0, Sum.inr (6, [.int 0, .int 0, .ref q1, .ref q2, .ref q3, .ref q4, .ref q5, .int 0, .ref q6, .ref q7, .ref q8, .ref q9, .int 0, .int (Int32.ofInt (-1)), .int 0, .int 0, .int 0, .int 0, .null, .int 0, .int 0, .int 0, .int 0, .null, .null, .null, .null, .null, .null, .null]))).set k (h0, Sum.inr (6, [.int 0, .int 0, .ref q1, .ref q2, .ref q3, .ref q4, .ref q5, .int 0, .ref q6, .ref q7, .ref q8, .ref q9, .int 0, .int (Int32.ofInt (-1)), .int (Int32.ofInt (-1)), .int 0, .int 0, .int 0, .null, .int 0, .int 0, .int 0, .int 0, .null, .null, .null, .null, .null, .null, .null]))) H := hP
  have hD : va_D (fun q => s0.heap.size ≤ q) ((((((((((((((((((((ws ++ [ct_ar q1 (cA 0) 8]).set k (h0, Sum.inr (6, [.int 0, .int 0, .ref q1, .null, .null, .null, .null, .int 0, .null, .null, .null, .null, .int 0, .int 0, .int 0, .int 0, .int 0, .int 0, .null, .int 0, .int 0, .int 0, .int 0, .null, .null, .null, .null, .null, .null, .null]))) ++ [ct_ar q2 (cA 0) 8]).set k (h0, Sum.inr (6, [.int 0, .int 0, .ref q1, .ref q2, .null, .null, .null, .int 0, .null, .null, .null, .null, .int 0, .int 0, .int 0, .int 0, .int 0, .int 0, .null, .int 0, .int 0, .int 0, .int 0, .null, .null, .null, .null, .null, .null, .null]))) ++ [ct_ar q3 (cA 0) 32]).set k (h0, Sum.inr (6, [.int 0, .int 0, .ref q1, .ref q2, .ref q3, .null, .null, .int 0, .null, .null, .null, .null, .int 0, .int 0, .int 0, .int 0, .int 0, .int 0, .null, .int 0, .int 0, .int 0, .int 0, .null, .null, .null, .null, .null, .null, .null]))) ++ [ct_ar q4 (cA 1) 4]).set k (h0, Sum.inr (6, [.int 0, .int 0, .ref q1, .ref q2, .ref q3, .ref q4, .null, .int 0, .null, .null, .null, .null, .int 0, .int 0, .int 0, .int 0, .int 0, .int 0, .null, .int 0, .int 0, .int 0, .int 0, .null, .null, .null, .null, .null, .null, .null]))) ++ [ct_ar q5 (cA 1) 81]).set k (h0, Sum.inr (6, [.int 0, .int 0, .ref q1, .ref q2, .ref q3, .ref q4, .ref q5, .int 0, .null, .null, .null, .null, .int 0, .int 0, .int 0, .int 0, .int 0, .int 0, .null, .int 0, .int 0, .int 0, .int 0, .null, .null, .null, .null, .null, .null, .null]))) ++ [ct_ar q6 (cA 1) 13500]).set k (h0, Sum.inr (6, [.int 0, .int 0, .ref q1, .ref q2, .ref q3, .ref q4, .ref q5, .int 0, .ref q6, .null, .null, .null, .int 0, .int 0, .int 0, .int 0, .int 0, .int 0, .null, .int 0, .int 0, .int 0, .int 0, .null, .null, .null, .null, .null, .null, .null]))) ++ [ct_ar q7 (cA 0) 500]).set k (h0, Sum.inr (6, [.int 0, .int 0, .ref q1, .ref q2, .ref q3, .ref q4, .ref q5, .int 0, .ref q6, .ref q7, .null, .null, .int 0, .int 0, .int 0, .int 0, .int 0, .int 0, .null, .int 0, .int 0, .int 0, .int 0, .null, .null, .null, .null, .null, .null, .null]))) ++ [ct_ar q8 (cA 1) 270]).set k (h0, Sum.inr (6, [.int 0, .int 0, .ref q1, .ref q2, .ref q3, .ref q4, .ref q5, .int 0, .ref q6, .ref q7, .ref q8, .null, .int 0, .int 0, .int 0, .int 0, .int 0, .int 0, .null, .int 0, .int 0, .int 0, .int 0, .null, .null, .null, .null, .null, .null, .null]))) ++ [ct_ar q9 (cA 0) 270]).set k (h0, Sum.inr (6, [.int 0, .int 0, .ref q1, .ref q2, .ref q3, .ref q4, .ref q5, .int 0, .ref q6, .ref q7, .ref q8, .ref q9, .int 0, .int 0, .int 0, .int 0, .int 0, .int 0, .null, .int 0, .int 0, .int 0, .int 0, .null, .null, .null, .null, .null, .null, .null]))).set k (h0, Sum.inr (6, [.int 0, .int 0, .ref q1, .ref q2, .ref q3, .ref q4, .ref q5, .int 0, .ref q6, .ref q7, .ref q8, .ref q9, .int 0, .int (Int32.ofInt (-1)), .int 0, .int 0, .int 0, .int 0, .null, .int 0, .int 0, .int 0, .int 0, .null, .null, .null, .null, .null, .null, .null]))).set k (h0, Sum.inr (6, [.int 0, .int 0, .ref q1, .ref q2, .ref q3, .ref q4, .ref q5, .int 0, .ref q6, .ref q7, .ref q8, .ref q9, .int 0, .int (Int32.ofInt (-1)), .int (Int32.ofInt (-1)), .int 0, .int 0, .int 0, .null, .int 0, .int 0, .int 0, .int 0, .null, .null, .null, .null, .null, .null, .null]))) := hD
  refine ct_int (ws := ((((((((((((((((((((ws ++ [ct_ar q1 (cA 0) 8]).set k (h0, Sum.inr (6, [.int 0, .int 0, .ref q1, .null, .null, .null, .null, .int 0, .null, .null, .null, .null, .int 0, .int 0, .int 0, .int 0, .int 0, .int 0, .null, .int 0, .int 0, .int 0, .int 0, .null, .null, .null, .null, .null, .null, .null]))) ++ [ct_ar q2 (cA 0) 8]).set k (h0, Sum.inr (6, [.int 0, .int 0, .ref q1, .ref q2, .null, .null, .null, .int 0, .null, .null, .null, .null, .int 0, .int 0, .int 0, .int 0, .int 0, .int 0, .null, .int 0, .int 0, .int 0, .int 0, .null, .null, .null, .null, .null, .null, .null]))) ++ [ct_ar q3 (cA 0) 32]).set k (h0, Sum.inr (6, [.int 0, .int 0, .ref q1, .ref q2, .ref q3, .null, .null, .int 0, .null, .null, .null, .null, .int 0, .int 0, .int 0, .int 0, .int 0, .int 0, .null, .int 0, .int 0, .int 0, .int 0, .null, .null, .null, .null, .null, .null, .null]))) ++ [ct_ar q4 (cA 1) 4]).set k (h0, Sum.inr (6, [.int 0, .int 0, .ref q1, .ref q2, .ref q3, .ref q4, .null, .int 0, .null, .null, .null, .null, .int 0, .int 0, .int 0, .int 0, .int 0, .int 0, .null, .int 0, .int 0, .int 0, .int 0, .null, .null, .null, .null, .null, .null, .null]))) ++ [ct_ar q5 (cA 1) 81]).set k (h0, Sum.inr (6, [.int 0, .int 0, .ref q1, .ref q2, .ref q3, .ref q4, .ref q5, .int 0, .null, .null, .null, .null, .int 0, .int 0, .int 0, .int 0, .int 0, .int 0, .null, .int 0, .int 0, .int 0, .int 0, .null, .null, .null, .null, .null, .null, .null]))) ++ [ct_ar q6 (cA 1) 13500]).set k (h0, Sum.inr (6, [.int 0, .int 0, .ref q1, .ref q2, .ref q3, .ref q4, .ref q5, .int 0, .ref q6, .null, .null, .null, .int 0, .int 0, .int 0, .int 0, .int 0, .int 0, .null, .int 0, .int 0, .int 0, .int 0, .null, .null, .null, .null, .null, .null, .null]))) ++ [ct_ar q7 (cA 0) 500]).set k (h0, Sum.inr (6, [.int 0, .int 0, .ref q1, .ref q2, .ref q3, .ref q4, .ref q5, .int 0, .ref q6, .ref q7, .null, .null, .int 0, .int 0, .int 0, .int 0, .int 0, .int 0, .null, .int 0, .int 0, .int 0, .int 0, .null, .null, .null, .null, .null, .null, .null]))) ++ [ct_ar q8 (cA 1) 270]).set k (h0, Sum.inr (6, [.int 0, .int 0, .ref q1, .ref q2, .ref q3, .ref q4, .ref q5, .int 0, .ref q6, .ref q7, .ref q8, .null, .int 0, .int 0, .int 0, .int 0, .int 0, .int 0, .null, .int 0, .int 0, .int 0, .int 0, .null, .null, .null, .null, .null, .null, .null]))) ++ [ct_ar q9 (cA 0) 270]).set k (h0, Sum.inr (6, [.int 0, .int 0, .ref q1, .ref q2, .ref q3, .ref q4, .ref q5, .int 0, .ref q6, .ref q7, .ref q8, .ref q9, .int 0, .int 0, .int 0, .int 0, .int 0, .int 0, .null, .int 0, .int 0, .int 0, .int 0, .null, .null, .null, .null, .null, .null, .null]))).set k (h0, Sum.inr (6, [.int 0, .int 0, .ref q1, .ref q2, .ref q3, .ref q4, .ref q5, .int 0, .ref q6, .ref q7, .ref q8, .ref q9, .int 0, .int (Int32.ofInt (-1)), .int 0, .int 0, .int 0, .int 0, .null, .int 0, .int 0, .int 0, .int 0, .null, .null, .null, .null, .null, .null, .null]))).set k (h0, Sum.inr (6, [.int 0, .int 0, .ref q1, .ref q2, .ref q3, .ref q4, .ref q5, .int 0, .ref q6, .ref q7, .ref q8, .ref q9, .int 0, .int (Int32.ofInt (-1)), .int (Int32.ofInt (-1)), .int 0, .int 0, .int 0, .null, .int 0, .int 0, .int 0, .int 0, .null, .null, .null, .null, .null, .null, .null])))) (k := k) (h0 := h0) (f := 15) (fs := [.int 0, .int 0, .ref q1, .ref q2, .ref q3, .ref q4, .ref q5, .int 0, .ref q6, .ref q7, .ref q8, .ref q9, .int 0, .int (Int32.ofInt (-1)), .int (Int32.ofInt (-1)), .int 0, .int 0, .int 0, .null, .int 0, .int 0, .int 0, .int 0, .null, .null, .null, .null, .null, .null, .null]) (idx := 45) hE hx hb (by decide) hown hW0 hg hP hD hS (lv_at hl 0 rfl) cn_6_d89 cn_6_d90 cn_6_d91 (Nat.le_of_ble_eq_true rfl) (Nat.le_of_ble_eq_true rfl) rfl cn_6_l45 rfl (fun H locs hP hD hS => ?_)
  have hg := ct_g0 (z := (h0, Sum.inr (6, [.int 0, .int 0, .ref q1, .ref q2, .ref q3, .ref q4, .ref q5, .int 0, .ref q6, .ref q7, .ref q8, .ref q9, .int 0, .int (Int32.ofInt (-1)), .int (Int32.ofInt (-1)), .int (Int32.ofInt (-1)), .int 0, .int 0, .null, .int 0, .int 0, .int 0, .int 0, .null, .null, .null, .null, .null, .null, .null]))) hg
  have hP : va_P (dC, dI) ab_cls (((((((((((((((((((((ws ++ [ct_ar q1 (cA 0) 8]).set k (h0, Sum.inr (6, [.int 0, .int 0, .ref q1, .null, .null, .null, .null, .int 0, .null, .null, .null, .null, .int 0, .int 0, .int 0, .int 0, .int 0, .int 0, .null, .int 0, .int 0, .int 0, .int 0, .null, .null, .null, .null, .null, .null, .null]))) ++ [ct_ar q2 (cA 0) 8]).set k (h0, Sum.inr (6, [.int 0, .int 0, .ref q1, .ref q2, .null, .null, .null, .int 0, .null, .null, .null, .null, .int 0, .int 0, .int 0, .int 0, .int 0, .int 0, .null, .int 0, .int 0, .int 0, .int 0, .null, .null, .null, .null, .null, .null, .null]))) ++ [ct_ar q3 (cA 0) 32]).set k (h0, Sum.inr (6, [.int 0, .int 0, .ref q1, .ref q2, .ref q3, .null, .null, .int 0, .null, .null, .null, .null, .int 0, .int 0, .int 0, .int 0, .int 0, .int 0, .null, .int 0, .int 0, .int 0, .int 0, .null, .null, .null, .null, .null, .null, .null]))) ++ [ct_ar q4 (cA 1) 4]).set k (h0, Sum.inr (6, [.int 0, .int 0, .ref q1, .ref q2, .ref q3, .ref q4, .null, .int 0, .null, .null, .null, .null, .int 0, .int 0, .int 0, .int 0, .int 0, .int 0, .null, .int 0, .int 0, .int 0, .int 0, .null, .null, .null, .null, .null, .null, .null]))) ++ [ct_ar q5 (cA 1) 81]).set k (h0, Sum.inr (6, [.int 0, .int 0, .ref q1, .ref q2, .ref q3, .ref q4, .ref q5, .int 0, .null, .null, .null, .null, .int 0, .int 0, .int 0, .int 0, .int 0, .int 0, .null, .int 0, .int 0, .int 0, .int 0, .null, .null, .null, .null, .null, .null, .null]))) ++ [ct_ar q6 (cA 1) 13500]).set k (h0, Sum.inr (6, [.int 0, .int 0, .ref q1, .ref q2, .ref q3, .ref q4, .ref q5, .int 0, .ref q6, .null, .null, .null, .int 0, .int 0, .int 0, .int 0, .int 0, .int 0, .null, .int 0, .int 0, .int 0, .int 0, .null, .null, .null, .null, .null, .null, .null]))) ++ [ct_ar q7 (cA 0) 500]).set k (h0, Sum.inr (6, [.int 0, .int 0, .ref q1, .ref q2, .ref q3, .ref q4, .ref q5, .int 0, .ref q6, .ref q7, .null, .null, .int 0, .int 0, .int 0, .int 0, .int 0, .int 0, .null, .int 0, .int 0, .int 0, .int 0, .null, .null, .null, .null, .null, .null, .null]))) ++ [ct_ar q8 (cA 1) 270]).set k (h0, Sum.inr (6, [.int 0, .int 0, .ref q1, .ref q2, .ref q3, .ref q4, .ref q5, .int 0, .ref q6, .ref q7, .ref q8, .null, .int 0, .int 0, .int 0, .int 0, .int 0, .int 0, .null, .int 0, .int 0, .int 0, .int 0, .null, .null, .null, .null, .null, .null, .null]))) ++ [ct_ar q9 (cA 0) 270]).set k (h0, Sum.inr (6, [.int 0, .int 0, .ref q1, .ref q2, .ref q3, .ref q4, .ref q5, .int 0, .ref q6, .ref q7, .ref q8, .ref q9, .int 0, .int 0, .int 0, .int 0, .int 0, .int 0, .null, .int 0, .int 0, .int 0, .int 0, .null, .null, .null, .null, .null, .null, .null]))).set k (h0, Sum.inr (6, [.int 0, .int 0, .ref q1, .ref q2, .ref q3, .ref q4, .ref q5, .int 0, .ref q6, .ref q7, .ref q8, .ref q9, .int 0, .int (Int32.ofInt (-1)), .int 0, .int 0, .int 0, .int 0, .null, .int 0, .int 0, .int 0, .int 0, .null, .null, .null, .null, .null, .null, .null]))).set k (h0, Sum.inr (6, [.int 0, .int 0, .ref q1, .ref q2, .ref q3, .ref q4, .ref q5, .int 0, .ref q6, .ref q7, .ref q8, .ref q9, .int 0, .int (Int32.ofInt (-1)), .int (Int32.ofInt (-1)), .int 0, .int 0, .int 0, .null, .int 0, .int 0, .int 0, .int 0, .null, .null, .null, .null, .null, .null, .null]))).set k (h0, Sum.inr (6, [.int 0, .int 0, .ref q1, .ref q2, .ref q3, .ref q4, .ref q5, .int 0, .ref q6, .ref q7, .ref q8, .ref q9, .int 0, .int (Int32.ofInt (-1)), .int (Int32.ofInt (-1)), .int (Int32.ofInt (-1)), .int 0, .int 0, .null, .int 0, .int 0, .int 0, .int 0, .null, .null, .null, .null, .null, .null, .null]))) H := hP
  have hD : va_D (fun q => s0.heap.size ≤ q) (((((((((((((((((((((ws ++ [ct_ar q1 (cA 0) 8]).set k (h0, Sum.inr (6, [.int 0, .int 0, .ref q1, .null, .null, .null, .null, .int 0, .null, .null, .null, .null, .int 0, .int 0, .int 0, .int 0, .int 0, .int 0, .null, .int 0, .int 0, .int 0, .int 0, .null, .null, .null, .null, .null, .null, .null]))) ++ [ct_ar q2 (cA 0) 8]).set k (h0, Sum.inr (6, [.int 0, .int 0, .ref q1, .ref q2, .null, .null, .null, .int 0, .null, .null, .null, .null, .int 0, .int 0, .int 0, .int 0, .int 0, .int 0, .null, .int 0, .int 0, .int 0, .int 0, .null, .null, .null, .null, .null, .null, .null]))) ++ [ct_ar q3 (cA 0) 32]).set k (h0, Sum.inr (6, [.int 0, .int 0, .ref q1, .ref q2, .ref q3, .null, .null, .int 0, .null, .null, .null, .null, .int 0, .int 0, .int 0, .int 0, .int 0, .int 0, .null, .int 0, .int 0, .int 0, .int 0, .null, .null, .null, .null, .null, .null, .null]))) ++ [ct_ar q4 (cA 1) 4]).set k (h0, Sum.inr (6, [.int 0, .int 0, .ref q1, .ref q2, .ref q3, .ref q4, .null, .int 0, .null, .null, .null, .null, .int 0, .int 0, .int 0, .int 0, .int 0, .int 0, .null, .int 0, .int 0, .int 0, .int 0, .null, .null, .null, .null, .null, .null, .null]))) ++ [ct_ar q5 (cA 1) 81]).set k (h0, Sum.inr (6, [.int 0, .int 0, .ref q1, .ref q2, .ref q3, .ref q4, .ref q5, .int 0, .null, .null, .null, .null, .int 0, .int 0, .int 0, .int 0, .int 0, .int 0, .null, .int 0, .int 0, .int 0, .int 0, .null, .null, .null, .null, .null, .null, .null]))) ++ [ct_ar q6 (cA 1) 13500]).set k (h0, Sum.inr (6, [.int 0, .int 0, .ref q1, .ref q2, .ref q3, .ref q4, .ref q5, .int 0, .ref q6, .null, .null, .null, .int 0, .int 0, .int 0, .int 0, .int 0, .int 0, .null, .int 0, .int 0, .int 0, .int 0, .null, .null, .null, .null, .null, .null, .null]))) ++ [ct_ar q7 (cA 0) 500]).set k (h0, Sum.inr (6, [.int 0, .int 0, .ref q1, .ref q2, .ref q3, .ref q4, .ref q5, .int 0, .ref q6, .ref q7, .null, .null, .int 0, .int 0, .int 0, .int 0, .int 0, .int 0, .null, .int 0, .int 0, .int 0, .int 0, .null, .null, .null, .null, .null, .null, .null]))) ++ [ct_ar q8 (cA 1) 270]).set k (h0, Sum.inr (6, [.int 0, .int 0, .ref q1, .ref q2, .ref q3, .ref q4, .ref q5, .int 0, .ref q6, .ref q7, .ref q8, .null, .int 0, .int 0, .int 0, .int 0, .int 0, .int 0, .null, .int 0, .int 0, .int 0, .int 0, .null, .null, .null, .null, .null, .null, .null]))) ++ [ct_ar q9 (cA 0) 270]).set k (h0, Sum.inr (6, [.int 0, .int 0, .ref q1, .ref q2, .ref q3, .ref q4, .ref q5, .int 0, .ref q6, .ref q7, .ref q8, .ref q9, .int 0, .int 0, .int 0, .int 0, .int 0, .int 0, .null, .int 0, .int 0, .int 0, .int 0, .null, .null, .null, .null, .null, .null, .null]))).set k (h0, Sum.inr (6, [.int 0, .int 0, .ref q1, .ref q2, .ref q3, .ref q4, .ref q5, .int 0, .ref q6, .ref q7, .ref q8, .ref q9, .int 0, .int (Int32.ofInt (-1)), .int 0, .int 0, .int 0, .int 0, .null, .int 0, .int 0, .int 0, .int 0, .null, .null, .null, .null, .null, .null, .null]))).set k (h0, Sum.inr (6, [.int 0, .int 0, .ref q1, .ref q2, .ref q3, .ref q4, .ref q5, .int 0, .ref q6, .ref q7, .ref q8, .ref q9, .int 0, .int (Int32.ofInt (-1)), .int (Int32.ofInt (-1)), .int 0, .int 0, .int 0, .null, .int 0, .int 0, .int 0, .int 0, .null, .null, .null, .null, .null, .null, .null]))).set k (h0, Sum.inr (6, [.int 0, .int 0, .ref q1, .ref q2, .ref q3, .ref q4, .ref q5, .int 0, .ref q6, .ref q7, .ref q8, .ref q9, .int 0, .int (Int32.ofInt (-1)), .int (Int32.ofInt (-1)), .int (Int32.ofInt (-1)), .int 0, .int 0, .null, .int 0, .int 0, .int 0, .int 0, .null, .null, .null, .null, .null, .null, .null]))) := hD
  refine ct_int (ws := (((((((((((((((((((((ws ++ [ct_ar q1 (cA 0) 8]).set k (h0, Sum.inr (6, [.int 0, .int 0, .ref q1, .null, .null, .null, .null, .int 0, .null, .null, .null, .null, .int 0, .int 0, .int 0, .int 0, .int 0, .int 0, .null, .int 0, .int 0, .int 0, .int 0, .null, .null, .null, .null, .null, .null, .null]))) ++ [ct_ar q2 (cA 0) 8]).set k (h0, Sum.inr (6, [.int 0, .int 0, .ref q1, .ref q2, .null, .null, .null, .int 0, .null, .null, .null, .null, .int 0, .int 0, .int 0, .int 0, .int 0, .int 0, .null, .int 0, .int 0, .int 0, .int 0, .null, .null, .null, .null, .null, .null, .null]))) ++ [ct_ar q3 (cA 0) 32]).set k (h0, Sum.inr (6, [.int 0, .int 0, .ref q1, .ref q2, .ref q3, .null, .null, .int 0, .null, .null, .null, .null, .int 0, .int 0, .int 0, .int 0, .int 0, .int 0, .null, .int 0, .int 0, .int 0, .int 0, .null, .null, .null, .null, .null, .null, .null]))) ++ [ct_ar q4 (cA 1) 4]).set k (h0, Sum.inr (6, [.int 0, .int 0, .ref q1, .ref q2, .ref q3, .ref q4, .null, .int 0, .null, .null, .null, .null, .int 0, .int 0, .int 0, .int 0, .int 0, .int 0, .null, .int 0, .int 0, .int 0, .int 0, .null, .null, .null, .null, .null, .null, .null]))) ++ [ct_ar q5 (cA 1) 81]).set k (h0, Sum.inr (6, [.int 0, .int 0, .ref q1, .ref q2, .ref q3, .ref q4, .ref q5, .int 0, .null, .null, .null, .null, .int 0, .int 0, .int 0, .int 0, .int 0, .int 0, .null, .int 0, .int 0, .int 0, .int 0, .null, .null, .null, .null, .null, .null, .null]))) ++ [ct_ar q6 (cA 1) 13500]).set k (h0, Sum.inr (6, [.int 0, .int 0, .ref q1, .ref q2, .ref q3, .ref q4, .ref q5, .int 0, .ref q6, .null, .null, .null, .int 0, .int 0, .int 0, .int 0, .int 0, .int 0, .null, .int 0, .int 0, .int 0, .int 0, .null, .null, .null, .null, .null, .null, .null]))) ++ [ct_ar q7 (cA 0) 500]).set k (h0, Sum.inr (6, [.int 0, .int 0, .ref q1, .ref q2, .ref q3, .ref q4, .ref q5, .int 0, .ref q6, .ref q7, .null, .null, .int 0, .int 0, .int 0, .int 0, .int 0, .int 0, .null, .int 0, .int 0, .int 0, .int 0, .null, .null, .null, .null, .null, .null, .null]))) ++ [ct_ar q8 (cA 1) 270]).set k (h0, Sum.inr (6, [.int 0, .int 0, .ref q1, .ref q2, .ref q3, .ref q4, .ref q5, .int 0, .ref q6, .ref q7, .ref q8, .null, .int 0, .int 0, .int 0, .int 0, .int 0, .int 0, .null, .int 0, .int 0, .int 0, .int 0, .null, .null, .null, .null, .null, .null, .null]))) ++ [ct_ar q9 (cA 0) 270]).set k (h0, Sum.inr (6, [.int 0, .int 0, .ref q1, .ref q2, .ref q3, .ref q4, .ref q5, .int 0, .ref q6, .ref q7, .ref q8, .ref q9, .int 0, .int 0, .int 0, .int 0, .int 0, .int 0, .null, .int 0, .int 0, .int 0, .int 0, .null, .null, .null, .null, .null, .null, .null]))).set k (h0, Sum.inr (6, [.int 0, .int 0, .ref q1, .ref q2, .ref q3, .ref q4, .ref q5, .int 0, .ref q6, .ref q7, .ref q8, .ref q9, .int 0, .int (Int32.ofInt (-1)), .int 0, .int 0, .int 0, .int 0, .null, .int 0, .int 0, .int 0, .int 0, .null, .null, .null, .null, .null, .null, .null]))).set k (h0, Sum.inr (6, [.int 0, .int 0, .ref q1, .ref q2, .ref q3, .ref q4, .ref q5, .int 0, .ref q6, .ref q7, .ref q8, .ref q9, .int 0, .int (Int32.ofInt (-1)), .int (Int32.ofInt (-1)), .int 0, .int 0, .int 0, .null, .int 0, .int 0, .int 0, .int 0, .null, .null, .null, .null, .null, .null, .null]))).set k (h0, Sum.inr (6, [.int 0, .int 0, .ref q1, .ref q2, .ref q3, .ref q4, .ref q5, .int 0, .ref q6, .ref q7, .ref q8, .ref q9, .int 0, .int (Int32.ofInt (-1)), .int (Int32.ofInt (-1)), .int (Int32.ofInt (-1)), .int 0, .int 0, .null, .int 0, .int 0, .int 0, .int 0, .null, .null, .null, .null, .null, .null, .null])))) (k := k) (h0 := h0) (f := 16) (fs := [.int 0, .int 0, .ref q1, .ref q2, .ref q3, .ref q4, .ref q5, .int 0, .ref q6, .ref q7, .ref q8, .ref q9, .int 0, .int (Int32.ofInt (-1)), .int (Int32.ofInt (-1)), .int (Int32.ofInt (-1)), .int 0, .int 0, .null, .int 0, .int 0, .int 0, .int 0, .null, .null, .null, .null, .null, .null, .null]) (idx := 48) hE hx hb (by decide) hown hW0 hg hP hD hS (lv_at hl 0 rfl) cn_6_d94 cn_6_d95 cn_6_d96 (Nat.le_of_ble_eq_true rfl) (Nat.le_of_ble_eq_true rfl) rfl cn_6_l48 rfl (fun H locs hP hD hS => ?_)
  have hg := ct_g0 (z := (h0, Sum.inr (6, [.int 0, .int 0, .ref q1, .ref q2, .ref q3, .ref q4, .ref q5, .int 0, .ref q6, .ref q7, .ref q8, .ref q9, .int 0, .int (Int32.ofInt (-1)), .int (Int32.ofInt (-1)), .int (Int32.ofInt (-1)), .int (Int32.ofInt (-1)), .int 0, .null, .int 0, .int 0, .int 0, .int 0, .null, .null, .null, .null, .null, .null, .null]))) hg
  have hP : va_P (dC, dI) ab_cls ((((((((((((((((((((((ws ++ [ct_ar q1 (cA 0) 8]).set k (h0, Sum.inr (6, [.int 0, .int 0, .ref q1, .null, .null, .null, .null, .int 0, .null, .null, .null, .null, .int 0, .int 0, .int 0, .int 0, .int 0, .int 0, .null, .int 0, .int 0, .int 0, .int 0, .null, .null, .null, .null, .null, .null, .null]))) ++ [ct_ar q2 (cA 0) 8]).set k (h0, Sum.inr (6, [.int 0, .int 0, .ref q1, .ref q2, .null, .null, .null, .int 0, .null, .null, .null, .null, .int 0, .int 0, .int 0, .int 0, .int 0, .int 0, .null, .int 0, .int 0, .int 0, .int 0, .null, .null, .null, .null, .null, .null, .null]))) ++ [ct_ar q3 (cA 0) 32]).set k (h0, Sum.inr (6, [.int 0, .int 0, .ref q1, .ref q2, .ref q3, .null, .null, .int 0, .null, .null, .null, .null, .int 0, .int 0, .int 0, .int 0, .int 0, .int 0, .null, .int 0, .int 0, .int 0, .int 0, .null, .null, .null, .null, .null, .null, .null]))) ++ [ct_ar q4 (cA 1) 4]).set k (h0, Sum.inr (6, [.int 0, .int 0, .ref q1, .ref q2, .ref q3, .ref q4, .null, .int 0, .null, .null, .null, .null, .int 0, .int 0, .int 0, .int 0, .int 0, .int 0, .null, .int 0, .int 0, .int 0, .int 0, .null, .null, .null, .null, .null, .null, .null]))) ++ [ct_ar q5 (cA 1) 81]).set k (h0, Sum.inr (6, [.int 0, .int 0, .ref q1, .ref q2, .ref q3, .ref q4, .ref q5, .int 0, .null, .null, .null, .null, .int 0, .int 0, .int 0, .int 0, .int 0, .int 0, .null, .int 0, .int 0, .int 0, .int 0, .null, .null, .null, .null, .null, .null, .null]))) ++ [ct_ar q6 (cA 1) 13500]).set k (h0, Sum.inr (6, [.int 0, .int 0, .ref q1, .ref q2, .ref q3, .ref q4, .ref q5, .int 0, .ref q6, .null, .null, .null, .int 0, .int 0, .int 0, .int 0, .int 0, .int 0, .null, .int 0, .int 0, .int 0, .int 0, .null, .null, .null, .null, .null, .null, .null]))) ++ [ct_ar q7 (cA 0) 500]).set k (h0, Sum.inr (6, [.int 0, .int 0, .ref q1, .ref q2, .ref q3, .ref q4, .ref q5, .int 0, .ref q6, .ref q7, .null, .null, .int 0, .int 0, .int 0, .int 0, .int 0, .int 0, .null, .int 0, .int 0, .int 0, .int 0, .null, .null, .null, .null, .null, .null, .null]))) ++ [ct_ar q8 (cA 1) 270]).set k (h0, Sum.inr (6, [.int 0, .int 0, .ref q1, .ref q2, .ref q3, .ref q4, .ref q5, .int 0, .ref q6, .ref q7, .ref q8, .null, .int 0, .int 0, .int 0, .int 0, .int 0, .int 0, .null, .int 0, .int 0, .int 0, .int 0, .null, .null, .null, .null, .null, .null, .null]))) ++ [ct_ar q9 (cA 0) 270]).set k (h0, Sum.inr (6, [.int 0, .int 0, .ref q1, .ref q2, .ref q3, .ref q4, .ref q5, .int 0, .ref q6, .ref q7, .ref q8, .ref q9, .int 0, .int 0, .int 0, .int 0, .int 0, .int 0, .null, .int 0, .int 0, .int 0, .int 0, .null, .null, .null, .null, .null, .null, .null]))).set k (h0, Sum.inr (6, [.int 0, .int 0, .ref q1, .ref q2, .ref q3, .ref q4, .ref q5, .int 0, .ref q6, .ref q7, .ref q8, .ref q9, .int 0, .int (Int32.ofInt (-1)), .int 0, .int 0, .int 0, .int 0, .null, .int 0, .int 0, .int 0, .int 0, .null, .null, .null, .null, .null, .null, .null]))).set k (h0, Sum.inr (6, [.int 0, .int 0, .ref q1, .ref q2, .ref q3, .ref q4, .ref q5, .int 0, .ref q6, .ref q7, .ref q8, .ref q9, .int 0, .int (Int32.ofInt (-1)), .int (Int32.ofInt (-1)), .int 0, .int 0, .int 0, .null, .int 0, .int 0, .int 0, .int 0, .null, .null, .null, .null, .null, .null, .null]))).set k (h0, Sum.inr (6, [.int 0, .int 0, .ref q1, .ref q2, .ref q3, .ref q4, .ref q5, .int 0, .ref q6, .ref q7, .ref q8, .ref q9, .int 0, .int (Int32.ofInt (-1)), .int (Int32.ofInt (-1)), .int (Int32.ofInt (-1)), .int 0, .int 0, .null, .int 0, .int 0, .int 0, .int 0, .null, .null, .null, .null, .null, .null, .null]))).set k (h0, Sum.inr (6, [.int 0, .int 0, .ref q1, .ref q2, .ref q3, .ref q4, .ref q5, .int 0, .ref q6, .ref q7, .ref q8, .ref q9, .int 0, .int (Int32.ofInt (-1)), .int (Int32.ofInt (-1)), .int (Int32.ofInt (-1)), .int (Int32.ofInt (-1)), .int 0, .null, .int 0, .int 0, .int 0, .int 0, .null, .null, .null, .null, .null, .null, .null]))) H := hP
  have hD : va_D (fun q => s0.heap.size ≤ q) ((((((((((((((((((((((ws ++ [ct_ar q1 (cA 0) 8]).set k (h0, Sum.inr (6, [.int 0, .int 0, .ref q1, .null, .null, .null, .null, .int 0, .null, .null, .null, .null, .int 0, .int 0, .int 0, .int 0, .int 0, .int 0, .null, .int 0, .int 0, .int 0, .int 0, .null, .null, .null, .null, .null, .null, .null]))) ++ [ct_ar q2 (cA 0) 8]).set k (h0, Sum.inr (6, [.int 0, .int 0, .ref q1, .ref q2, .null, .null, .null, .int 0, .null, .null, .null, .null, .int 0, .int 0, .int 0, .int 0, .int 0, .int 0, .null, .int 0, .int 0, .int 0, .int 0, .null, .null, .null, .null, .null, .null, .null]))) ++ [ct_ar q3 (cA 0) 32]).set k (h0, Sum.inr (6, [.int 0, .int 0, .ref q1, .ref q2, .ref q3, .null, .null, .int 0, .null, .null, .null, .null, .int 0, .int 0, .int 0, .int 0, .int 0, .int 0, .null, .int 0, .int 0, .int 0, .int 0, .null, .null, .null, .null, .null, .null, .null]))) ++ [ct_ar q4 (cA 1) 4]).set k (h0, Sum.inr (6, [.int 0, .int 0, .ref q1, .ref q2, .ref q3, .ref q4, .null, .int 0, .null, .null, .null, .null, .int 0, .int 0, .int 0, .int 0, .int 0, .int 0, .null, .int 0, .int 0, .int 0, .int 0, .null, .null, .null, .null, .null, .null, .null]))) ++ [ct_ar q5 (cA 1) 81]).set k (h0, Sum.inr (6, [.int 0, .int 0, .ref q1, .ref q2, .ref q3, .ref q4, .ref q5, .int 0, .null, .null, .null, .null, .int 0, .int 0, .int 0, .int 0, .int 0, .int 0, .null, .int 0, .int 0, .int 0, .int 0, .null, .null, .null, .null, .null, .null, .null]))) ++ [ct_ar q6 (cA 1) 13500]).set k (h0, Sum.inr (6, [.int 0, .int 0, .ref q1, .ref q2, .ref q3, .ref q4, .ref q5, .int 0, .ref q6, .null, .null, .null, .int 0, .int 0, .int 0, .int 0, .int 0, .int 0, .null, .int 0, .int 0, .int 0, .int 0, .null, .null, .null, .null, .null, .null, .null]))) ++ [ct_ar q7 (cA 0) 500]).set k (h0, Sum.inr (6, [.int 0, .int 0, .ref q1, .ref q2, .ref q3, .ref q4, .ref q5, .int 0, .ref q6, .ref q7, .null, .null, .int 0, .int 0, .int 0, .int 0, .int 0, .int 0, .null, .int 0, .int 0, .int 0, .int 0, .null, .null, .null, .null, .null, .null, .null]))) ++ [ct_ar q8 (cA 1) 270]).set k (h0, Sum.inr (6, [.int 0, .int 0, .ref q1, .ref q2, .ref q3, .ref q4, .ref q5, .int 0, .ref q6, .ref q7, .ref q8, .null, .int 0, .int 0, .int 0, .int 0, .int 0, .int 0, .null, .int 0, .int 0, .int 0, .int 0, .null, .null, .null, .null, .null, .null, .null]))) ++ [ct_ar q9 (cA 0) 270]).set k (h0, Sum.inr (6, [.int 0, .int 0, .ref q1, .ref q2, .ref q3, .ref q4, .ref q5, .int 0, .ref q6, .ref q7, .ref q8, .ref q9, .int 0, .int 0, .int 0, .int 0, .int 0, .int 0, .null, .int 0, .int 0, .int 0, .int 0, .null, .null, .null, .null, .null, .null, .null]))).set k (h0, Sum.inr (6, [.int 0, .int 0, .ref q1, .ref q2, .ref q3, .ref q4, .ref q5, .int 0, .ref q6, .ref q7, .ref q8, .ref q9, .int 0, .int (Int32.ofInt (-1)), .int 0, .int 0, .int 0, .int 0, .null, .int 0, .int 0, .int 0, .int 0, .null, .null, .null, .null, .null, .null, .null]))).set k (h0, Sum.inr (6, [.int 0, .int 0, .ref q1, .ref q2, .ref q3, .ref q4, .ref q5, .int 0, .ref q6, .ref q7, .ref q8, .ref q9, .int 0, .int (Int32.ofInt (-1)), .int (Int32.ofInt (-1)), .int 0, .int 0, .int 0, .null, .int 0, .int 0, .int 0, .int 0, .null, .null, .null, .null, .null, .null, .null]))).set k (h0, Sum.inr (6, [.int 0, .int 0, .ref q1, .ref q2, .ref q3, .ref q4, .ref q5, .int 0, .ref q6, .ref q7, .ref q8, .ref q9, .int 0, .int (Int32.ofInt (-1)), .int (Int32.ofInt (-1)), .int (Int32.ofInt (-1)), .int 0, .int 0, .null, .int 0, .int 0, .int 0, .int 0, .null, .null, .null, .null, .null, .null, .null]))).set k (h0, Sum.inr (6, [.int 0, .int 0, .ref q1, .ref q2, .ref q3, .ref q4, .ref q5, .int 0, .ref q6, .ref q7, .ref q8, .ref q9, .int 0, .int (Int32.ofInt (-1)), .int (Int32.ofInt (-1)), .int (Int32.ofInt (-1)), .int (Int32.ofInt (-1)), .int 0, .null, .int 0, .int 0, .int 0, .int 0, .null, .null, .null, .null, .null, .null, .null]))) := hD
  refine ct_arr (ws := ((((((((((((((((((((((ws ++ [ct_ar q1 (cA 0) 8]).set k (h0, Sum.inr (6, [.int 0, .int 0, .ref q1, .null, .null, .null, .null, .int 0, .null, .null, .null, .null, .int 0, .int 0, .int 0, .int 0, .int 0, .int 0, .null, .int 0, .int 0, .int 0, .int 0, .null, .null, .null, .null, .null, .null, .null]))) ++ [ct_ar q2 (cA 0) 8]).set k (h0, Sum.inr (6, [.int 0, .int 0, .ref q1, .ref q2, .null, .null, .null, .int 0, .null, .null, .null, .null, .int 0, .int 0, .int 0, .int 0, .int 0, .int 0, .null, .int 0, .int 0, .int 0, .int 0, .null, .null, .null, .null, .null, .null, .null]))) ++ [ct_ar q3 (cA 0) 32]).set k (h0, Sum.inr (6, [.int 0, .int 0, .ref q1, .ref q2, .ref q3, .null, .null, .int 0, .null, .null, .null, .null, .int 0, .int 0, .int 0, .int 0, .int 0, .int 0, .null, .int 0, .int 0, .int 0, .int 0, .null, .null, .null, .null, .null, .null, .null]))) ++ [ct_ar q4 (cA 1) 4]).set k (h0, Sum.inr (6, [.int 0, .int 0, .ref q1, .ref q2, .ref q3, .ref q4, .null, .int 0, .null, .null, .null, .null, .int 0, .int 0, .int 0, .int 0, .int 0, .int 0, .null, .int 0, .int 0, .int 0, .int 0, .null, .null, .null, .null, .null, .null, .null]))) ++ [ct_ar q5 (cA 1) 81]).set k (h0, Sum.inr (6, [.int 0, .int 0, .ref q1, .ref q2, .ref q3, .ref q4, .ref q5, .int 0, .null, .null, .null, .null, .int 0, .int 0, .int 0, .int 0, .int 0, .int 0, .null, .int 0, .int 0, .int 0, .int 0, .null, .null, .null, .null, .null, .null, .null]))) ++ [ct_ar q6 (cA 1) 13500]).set k (h0, Sum.inr (6, [.int 0, .int 0, .ref q1, .ref q2, .ref q3, .ref q4, .ref q5, .int 0, .ref q6, .null, .null, .null, .int 0, .int 0, .int 0, .int 0, .int 0, .int 0, .null, .int 0, .int 0, .int 0, .int 0, .null, .null, .null, .null, .null, .null, .null]))) ++ [ct_ar q7 (cA 0) 500]).set k (h0, Sum.inr (6, [.int 0, .int 0, .ref q1, .ref q2, .ref q3, .ref q4, .ref q5, .int 0, .ref q6, .ref q7, .null, .null, .int 0, .int 0, .int 0, .int 0, .int 0, .int 0, .null, .int 0, .int 0, .int 0, .int 0, .null, .null, .null, .null, .null, .null, .null]))) ++ [ct_ar q8 (cA 1) 270]).set k (h0, Sum.inr (6, [.int 0, .int 0, .ref q1, .ref q2, .ref q3, .ref q4, .ref q5, .int 0, .ref q6, .ref q7, .ref q8, .null, .int 0, .int 0, .int 0, .int 0, .int 0, .int 0, .null, .int 0, .int 0, .int 0, .int 0, .null, .null, .null, .null, .null, .null, .null]))) ++ [ct_ar q9 (cA 0) 270]).set k (h0, Sum.inr (6, [.int 0, .int 0, .ref q1, .ref q2, .ref q3, .ref q4, .ref q5, .int 0, .ref q6, .ref q7, .ref q8, .ref q9, .int 0, .int 0, .int 0, .int 0, .int 0, .int 0, .null, .int 0, .int 0, .int 0, .int 0, .null, .null, .null, .null, .null, .null, .null]))).set k (h0, Sum.inr (6, [.int 0, .int 0, .ref q1, .ref q2, .ref q3, .ref q4, .ref q5, .int 0, .ref q6, .ref q7, .ref q8, .ref q9, .int 0, .int (Int32.ofInt (-1)), .int 0, .int 0, .int 0, .int 0, .null, .int 0, .int 0, .int 0, .int 0, .null, .null, .null, .null, .null, .null, .null]))).set k (h0, Sum.inr (6, [.int 0, .int 0, .ref q1, .ref q2, .ref q3, .ref q4, .ref q5, .int 0, .ref q6, .ref q7, .ref q8, .ref q9, .int 0, .int (Int32.ofInt (-1)), .int (Int32.ofInt (-1)), .int 0, .int 0, .int 0, .null, .int 0, .int 0, .int 0, .int 0, .null, .null, .null, .null, .null, .null, .null]))).set k (h0, Sum.inr (6, [.int 0, .int 0, .ref q1, .ref q2, .ref q3, .ref q4, .ref q5, .int 0, .ref q6, .ref q7, .ref q8, .ref q9, .int 0, .int (Int32.ofInt (-1)), .int (Int32.ofInt (-1)), .int (Int32.ofInt (-1)), .int 0, .int 0, .null, .int 0, .int 0, .int 0, .int 0, .null, .null, .null, .null, .null, .null, .null]))).set k (h0, Sum.inr (6, [.int 0, .int 0, .ref q1, .ref q2, .ref q3, .ref q4, .ref q5, .int 0, .ref q6, .ref q7, .ref q8, .ref q9, .int 0, .int (Int32.ofInt (-1)), .int (Int32.ofInt (-1)), .int (Int32.ofInt (-1)), .int (Int32.ofInt (-1)), .int 0, .null, .int 0, .int 0, .int 0, .int 0, .null, .null, .null, .null, .null, .null, .null])))) (k := k) (h0 := h0) (f := 18) (fs := [.int 0, .int 0, .ref q1, .ref q2, .ref q3, .ref q4, .ref q5, .int 0, .ref q6, .ref q7, .ref q8, .ref q9, .int 0, .int (Int32.ofInt (-1)), .int (Int32.ofInt (-1)), .int (Int32.ofInt (-1)), .int (Int32.ofInt (-1)), .int 0, .null, .int 0, .int 0, .int 0, .int 0, .null, .null, .null, .null, .null, .null, .null]) (tk := 0) (idx := 51) (N' := 20) hE hx hb (by decide) hown hin hW0 hsz hg hP hD hS (lv_at hl 0 rfl) cn_6_d99 (fun z => lv_bipush hx hb cn_6_d100 (v := 20) rfl z) cn_6_d102 cn_6_d104 rfl rfl rfl aw_0 (by decide) rfl (by decide) (Nat.le_of_ble_eq_true rfl) (Nat.le_of_ble_eq_true rfl) (Nat.le_of_ble_eq_true rfl) (Nat.le_of_ble_eq_true rfl) rfl cn_6_l51 (fun _ => rfl) (fun _ => rfl) (fun q10 H locs hP hD hS => ?_)
  have hg := ct_g1 (y := ct_ar q10 (cA 0) 20) (z := (h0, Sum.inr (6, [.int 0, .int 0, .ref q1, .ref q2, .ref q3, .ref q4, .ref q5, .int 0, .ref q6, .ref q7, .ref q8, .ref q9, .int 0, .int (Int32.ofInt (-1)), .int (Int32.ofInt (-1)), .int (Int32.ofInt (-1)), .int (Int32.ofInt (-1)), .int 0, .ref q10, .int 0, .int 0, .int 0, .int 0, .null, .null, .null, .null, .null, .null, .null]))) hg
  have hP : va_P (dC, dI) ab_cls ((((((((((((((((((((((((ws ++ [ct_ar q1 (cA 0) 8]).set k (h0, Sum.inr (6, [.int 0, .int 0, .ref q1, .null, .null, .null, .null, .int 0, .null, .null, .null, .null, .int 0, .int 0, .int 0, .int 0, .int 0, .int 0, .null, .int 0, .int 0, .int 0, .int 0, .null, .null, .null, .null, .null, .null, .null]))) ++ [ct_ar q2 (cA 0) 8]).set k (h0, Sum.inr (6, [.int 0, .int 0, .ref q1, .ref q2, .null, .null, .null, .int 0, .null, .null, .null, .null, .int 0, .int 0, .int 0, .int 0, .int 0, .int 0, .null, .int 0, .int 0, .int 0, .int 0, .null, .null, .null, .null, .null, .null, .null]))) ++ [ct_ar q3 (cA 0) 32]).set k (h0, Sum.inr (6, [.int 0, .int 0, .ref q1, .ref q2, .ref q3, .null, .null, .int 0, .null, .null, .null, .null, .int 0, .int 0, .int 0, .int 0, .int 0, .int 0, .null, .int 0, .int 0, .int 0, .int 0, .null, .null, .null, .null, .null, .null, .null]))) ++ [ct_ar q4 (cA 1) 4]).set k (h0, Sum.inr (6, [.int 0, .int 0, .ref q1, .ref q2, .ref q3, .ref q4, .null, .int 0, .null, .null, .null, .null, .int 0, .int 0, .int 0, .int 0, .int 0, .int 0, .null, .int 0, .int 0, .int 0, .int 0, .null, .null, .null, .null, .null, .null, .null]))) ++ [ct_ar q5 (cA 1) 81]).set k (h0, Sum.inr (6, [.int 0, .int 0, .ref q1, .ref q2, .ref q3, .ref q4, .ref q5, .int 0, .null, .null, .null, .null, .int 0, .int 0, .int 0, .int 0, .int 0, .int 0, .null, .int 0, .int 0, .int 0, .int 0, .null, .null, .null, .null, .null, .null, .null]))) ++ [ct_ar q6 (cA 1) 13500]).set k (h0, Sum.inr (6, [.int 0, .int 0, .ref q1, .ref q2, .ref q3, .ref q4, .ref q5, .int 0, .ref q6, .null, .null, .null, .int 0, .int 0, .int 0, .int 0, .int 0, .int 0, .null, .int 0, .int 0, .int 0, .int 0, .null, .null, .null, .null, .null, .null, .null]))) ++ [ct_ar q7 (cA 0) 500]).set k (h0, Sum.inr (6, [.int 0, .int 0, .ref q1, .ref q2, .ref q3, .ref q4, .ref q5, .int 0, .ref q6, .ref q7, .null, .null, .int 0, .int 0, .int 0, .int 0, .int 0, .int 0, .null, .int 0, .int 0, .int 0, .int 0, .null, .null, .null, .null, .null, .null, .null]))) ++ [ct_ar q8 (cA 1) 270]).set k (h0, Sum.inr (6, [.int 0, .int 0, .ref q1, .ref q2, .ref q3, .ref q4, .ref q5, .int 0, .ref q6, .ref q7, .ref q8, .null, .int 0, .int 0, .int 0, .int 0, .int 0, .int 0, .null, .int 0, .int 0, .int 0, .int 0, .null, .null, .null, .null, .null, .null, .null]))) ++ [ct_ar q9 (cA 0) 270]).set k (h0, Sum.inr (6, [.int 0, .int 0, .ref q1, .ref q2, .ref q3, .ref q4, .ref q5, .int 0, .ref q6, .ref q7, .ref q8, .ref q9, .int 0, .int 0, .int 0, .int 0, .int 0, .int 0, .null, .int 0, .int 0, .int 0, .int 0, .null, .null, .null, .null, .null, .null, .null]))).set k (h0, Sum.inr (6, [.int 0, .int 0, .ref q1, .ref q2, .ref q3, .ref q4, .ref q5, .int 0, .ref q6, .ref q7, .ref q8, .ref q9, .int 0, .int (Int32.ofInt (-1)), .int 0, .int 0, .int 0, .int 0, .null, .int 0, .int 0, .int 0, .int 0, .null, .null, .null, .null, .null, .null, .null]))).set k (h0, Sum.inr (6, [.int 0, .int 0, .ref q1, .ref q2, .ref q3, .ref q4, .ref q5, .int 0, .ref q6, .ref q7, .ref q8, .ref q9, .int 0, .int (Int32.ofInt (-1)), .int (Int32.ofInt (-1)), .int 0, .int 0, .int 0, .null, .int 0, .int 0, .int 0, .int 0, .null, .null, .null, .null, .null, .null, .null]))).set k (h0, Sum.inr (6, [.int 0, .int 0, .ref q1, .ref q2, .ref q3, .ref q4, .ref q5, .int 0, .ref q6, .ref q7, .ref q8, .ref q9, .int 0, .int (Int32.ofInt (-1)), .int (Int32.ofInt (-1)), .int (Int32.ofInt (-1)), .int 0, .int 0, .null, .int 0, .int 0, .int 0, .int 0, .null, .null, .null, .null, .null, .null, .null]))).set k (h0, Sum.inr (6, [.int 0, .int 0, .ref q1, .ref q2, .ref q3, .ref q4, .ref q5, .int 0, .ref q6, .ref q7, .ref q8, .ref q9, .int 0, .int (Int32.ofInt (-1)), .int (Int32.ofInt (-1)), .int (Int32.ofInt (-1)), .int (Int32.ofInt (-1)), .int 0, .null, .int 0, .int 0, .int 0, .int 0, .null, .null, .null, .null, .null, .null, .null]))) ++ [ct_ar q10 (cA 0) 20]).set k (h0, Sum.inr (6, [.int 0, .int 0, .ref q1, .ref q2, .ref q3, .ref q4, .ref q5, .int 0, .ref q6, .ref q7, .ref q8, .ref q9, .int 0, .int (Int32.ofInt (-1)), .int (Int32.ofInt (-1)), .int (Int32.ofInt (-1)), .int (Int32.ofInt (-1)), .int 0, .ref q10, .int 0, .int 0, .int 0, .int 0, .null, .null, .null, .null, .null, .null, .null]))) H := hP
  have hD : va_D (fun q => s0.heap.size ≤ q) ((((((((((((((((((((((((ws ++ [ct_ar q1 (cA 0) 8]).set k (h0, Sum.inr (6, [.int 0, .int 0, .ref q1, .null, .null, .null, .null, .int 0, .null, .null, .null, .null, .int 0, .int 0, .int 0, .int 0, .int 0, .int 0, .null, .int 0, .int 0, .int 0, .int 0, .null, .null, .null, .null, .null, .null, .null]))) ++ [ct_ar q2 (cA 0) 8]).set k (h0, Sum.inr (6, [.int 0, .int 0, .ref q1, .ref q2, .null, .null, .null, .int 0, .null, .null, .null, .null, .int 0, .int 0, .int 0, .int 0, .int 0, .int 0, .null, .int 0, .int 0, .int 0, .int 0, .null, .null, .null, .null, .null, .null, .null]))) ++ [ct_ar q3 (cA 0) 32]).set k (h0, Sum.inr (6, [.int 0, .int 0, .ref q1, .ref q2, .ref q3, .null, .null, .int 0, .null, .null, .null, .null, .int 0, .int 0, .int 0, .int 0, .int 0, .int 0, .null, .int 0, .int 0, .int 0, .int 0, .null, .null, .null, .null, .null, .null, .null]))) ++ [ct_ar q4 (cA 1) 4]).set k (h0, Sum.inr (6, [.int 0, .int 0, .ref q1, .ref q2, .ref q3, .ref q4, .null, .int 0, .null, .null, .null, .null, .int 0, .int 0, .int 0, .int 0, .int 0, .int 0, .null, .int 0, .int 0, .int 0, .int 0, .null, .null, .null, .null, .null, .null, .null]))) ++ [ct_ar q5 (cA 1) 81]).set k (h0, Sum.inr (6, [.int 0, .int 0, .ref q1, .ref q2, .ref q3, .ref q4, .ref q5, .int 0, .null, .null, .null, .null, .int 0, .int 0, .int 0, .int 0, .int 0, .int 0, .null, .int 0, .int 0, .int 0, .int 0, .null, .null, .null, .null, .null, .null, .null]))) ++ [ct_ar q6 (cA 1) 13500]).set k (h0, Sum.inr (6, [.int 0, .int 0, .ref q1, .ref q2, .ref q3, .ref q4, .ref q5, .int 0, .ref q6, .null, .null, .null, .int 0, .int 0, .int 0, .int 0, .int 0, .int 0, .null, .int 0, .int 0, .int 0, .int 0, .null, .null, .null, .null, .null, .null, .null]))) ++ [ct_ar q7 (cA 0) 500]).set k (h0, Sum.inr (6, [.int 0, .int 0, .ref q1, .ref q2, .ref q3, .ref q4, .ref q5, .int 0, .ref q6, .ref q7, .null, .null, .int 0, .int 0, .int 0, .int 0, .int 0, .int 0, .null, .int 0, .int 0, .int 0, .int 0, .null, .null, .null, .null, .null, .null, .null]))) ++ [ct_ar q8 (cA 1) 270]).set k (h0, Sum.inr (6, [.int 0, .int 0, .ref q1, .ref q2, .ref q3, .ref q4, .ref q5, .int 0, .ref q6, .ref q7, .ref q8, .null, .int 0, .int 0, .int 0, .int 0, .int 0, .int 0, .null, .int 0, .int 0, .int 0, .int 0, .null, .null, .null, .null, .null, .null, .null]))) ++ [ct_ar q9 (cA 0) 270]).set k (h0, Sum.inr (6, [.int 0, .int 0, .ref q1, .ref q2, .ref q3, .ref q4, .ref q5, .int 0, .ref q6, .ref q7, .ref q8, .ref q9, .int 0, .int 0, .int 0, .int 0, .int 0, .int 0, .null, .int 0, .int 0, .int 0, .int 0, .null, .null, .null, .null, .null, .null, .null]))).set k (h0, Sum.inr (6, [.int 0, .int 0, .ref q1, .ref q2, .ref q3, .ref q4, .ref q5, .int 0, .ref q6, .ref q7, .ref q8, .ref q9, .int 0, .int (Int32.ofInt (-1)), .int 0, .int 0, .int 0, .int 0, .null, .int 0, .int 0, .int 0, .int 0, .null, .null, .null, .null, .null, .null, .null]))).set k (h0, Sum.inr (6, [.int 0, .int 0, .ref q1, .ref q2, .ref q3, .ref q4, .ref q5, .int 0, .ref q6, .ref q7, .ref q8, .ref q9, .int 0, .int (Int32.ofInt (-1)), .int (Int32.ofInt (-1)), .int 0, .int 0, .int 0, .null, .int 0, .int 0, .int 0, .int 0, .null, .null, .null, .null, .null, .null, .null]))).set k (h0, Sum.inr (6, [.int 0, .int 0, .ref q1, .ref q2, .ref q3, .ref q4, .ref q5, .int 0, .ref q6, .ref q7, .ref q8, .ref q9, .int 0, .int (Int32.ofInt (-1)), .int (Int32.ofInt (-1)), .int (Int32.ofInt (-1)), .int 0, .int 0, .null, .int 0, .int 0, .int 0, .int 0, .null, .null, .null, .null, .null, .null, .null]))).set k (h0, Sum.inr (6, [.int 0, .int 0, .ref q1, .ref q2, .ref q3, .ref q4, .ref q5, .int 0, .ref q6, .ref q7, .ref q8, .ref q9, .int 0, .int (Int32.ofInt (-1)), .int (Int32.ofInt (-1)), .int (Int32.ofInt (-1)), .int (Int32.ofInt (-1)), .int 0, .null, .int 0, .int 0, .int 0, .int 0, .null, .null, .null, .null, .null, .null, .null]))) ++ [ct_ar q10 (cA 0) 20]).set k (h0, Sum.inr (6, [.int 0, .int 0, .ref q1, .ref q2, .ref q3, .ref q4, .ref q5, .int 0, .ref q6, .ref q7, .ref q8, .ref q9, .int 0, .int (Int32.ofInt (-1)), .int (Int32.ofInt (-1)), .int (Int32.ofInt (-1)), .int (Int32.ofInt (-1)), .int 0, .ref q10, .int 0, .int 0, .int 0, .int 0, .null, .null, .null, .null, .null, .null, .null]))) := hD
  refine ct_arr (ws := ((((((((((((((((((((((((ws ++ [ct_ar q1 (cA 0) 8]).set k (h0, Sum.inr (6, [.int 0, .int 0, .ref q1, .null, .null, .null, .null, .int 0, .null, .null, .null, .null, .int 0, .int 0, .int 0, .int 0, .int 0, .int 0, .null, .int 0, .int 0, .int 0, .int 0, .null, .null, .null, .null, .null, .null, .null]))) ++ [ct_ar q2 (cA 0) 8]).set k (h0, Sum.inr (6, [.int 0, .int 0, .ref q1, .ref q2, .null, .null, .null, .int 0, .null, .null, .null, .null, .int 0, .int 0, .int 0, .int 0, .int 0, .int 0, .null, .int 0, .int 0, .int 0, .int 0, .null, .null, .null, .null, .null, .null, .null]))) ++ [ct_ar q3 (cA 0) 32]).set k (h0, Sum.inr (6, [.int 0, .int 0, .ref q1, .ref q2, .ref q3, .null, .null, .int 0, .null, .null, .null, .null, .int 0, .int 0, .int 0, .int 0, .int 0, .int 0, .null, .int 0, .int 0, .int 0, .int 0, .null, .null, .null, .null, .null, .null, .null]))) ++ [ct_ar q4 (cA 1) 4]).set k (h0, Sum.inr (6, [.int 0, .int 0, .ref q1, .ref q2, .ref q3, .ref q4, .null, .int 0, .null, .null, .null, .null, .int 0, .int 0, .int 0, .int 0, .int 0, .int 0, .null, .int 0, .int 0, .int 0, .int 0, .null, .null, .null, .null, .null, .null, .null]))) ++ [ct_ar q5 (cA 1) 81]).set k (h0, Sum.inr (6, [.int 0, .int 0, .ref q1, .ref q2, .ref q3, .ref q4, .ref q5, .int 0, .null, .null, .null, .null, .int 0, .int 0, .int 0, .int 0, .int 0, .int 0, .null, .int 0, .int 0, .int 0, .int 0, .null, .null, .null, .null, .null, .null, .null]))) ++ [ct_ar q6 (cA 1) 13500]).set k (h0, Sum.inr (6, [.int 0, .int 0, .ref q1, .ref q2, .ref q3, .ref q4, .ref q5, .int 0, .ref q6, .null, .null, .null, .int 0, .int 0, .int 0, .int 0, .int 0, .int 0, .null, .int 0, .int 0, .int 0, .int 0, .null, .null, .null, .null, .null, .null, .null]))) ++ [ct_ar q7 (cA 0) 500]).set k (h0, Sum.inr (6, [.int 0, .int 0, .ref q1, .ref q2, .ref q3, .ref q4, .ref q5, .int 0, .ref q6, .ref q7, .null, .null, .int 0, .int 0, .int 0, .int 0, .int 0, .int 0, .null, .int 0, .int 0, .int 0, .int 0, .null, .null, .null, .null, .null, .null, .null]))) ++ [ct_ar q8 (cA 1) 270]).set k (h0, Sum.inr (6, [.int 0, .int 0, .ref q1, .ref q2, .ref q3, .ref q4, .ref q5, .int 0, .ref q6, .ref q7, .ref q8, .null, .int 0, .int 0, .int 0, .int 0, .int 0, .int 0, .null, .int 0, .int 0, .int 0, .int 0, .null, .null, .null, .null, .null, .null, .null]))) ++ [ct_ar q9 (cA 0) 270]).set k (h0, Sum.inr (6, [.int 0, .int 0, .ref q1, .ref q2, .ref q3, .ref q4, .ref q5, .int 0, .ref q6, .ref q7, .ref q8, .ref q9, .int 0, .int 0, .int 0, .int 0, .int 0, .int 0, .null, .int 0, .int 0, .int 0, .int 0, .null, .null, .null, .null, .null, .null, .null]))).set k (h0, Sum.inr (6, [.int 0, .int 0, .ref q1, .ref q2, .ref q3, .ref q4, .ref q5, .int 0, .ref q6, .ref q7, .ref q8, .ref q9, .int 0, .int (Int32.ofInt (-1)), .int 0, .int 0, .int 0, .int 0, .null, .int 0, .int 0, .int 0, .int 0, .null, .null, .null, .null, .null, .null, .null]))).set k (h0, Sum.inr (6, [.int 0, .int 0, .ref q1, .ref q2, .ref q3, .ref q4, .ref q5, .int 0, .ref q6, .ref q7, .ref q8, .ref q9, .int 0, .int (Int32.ofInt (-1)), .int (Int32.ofInt (-1)), .int 0, .int 0, .int 0, .null, .int 0, .int 0, .int 0, .int 0, .null, .null, .null, .null, .null, .null, .null]))).set k (h0, Sum.inr (6, [.int 0, .int 0, .ref q1, .ref q2, .ref q3, .ref q4, .ref q5, .int 0, .ref q6, .ref q7, .ref q8, .ref q9, .int 0, .int (Int32.ofInt (-1)), .int (Int32.ofInt (-1)), .int (Int32.ofInt (-1)), .int 0, .int 0, .null, .int 0, .int 0, .int 0, .int 0, .null, .null, .null, .null, .null, .null, .null]))).set k (h0, Sum.inr (6, [.int 0, .int 0, .ref q1, .ref q2, .ref q3, .ref q4, .ref q5, .int 0, .ref q6, .ref q7, .ref q8, .ref q9, .int 0, .int (Int32.ofInt (-1)), .int (Int32.ofInt (-1)), .int (Int32.ofInt (-1)), .int (Int32.ofInt (-1)), .int 0, .null, .int 0, .int 0, .int 0, .int 0, .null, .null, .null, .null, .null, .null, .null]))) ++ [ct_ar q10 (cA 0) 20]).set k (h0, Sum.inr (6, [.int 0, .int 0, .ref q1, .ref q2, .ref q3, .ref q4, .ref q5, .int 0, .ref q6, .ref q7, .ref q8, .ref q9, .int 0, .int (Int32.ofInt (-1)), .int (Int32.ofInt (-1)), .int (Int32.ofInt (-1)), .int (Int32.ofInt (-1)), .int 0, .ref q10, .int 0, .int 0, .int 0, .int 0, .null, .null, .null, .null, .null, .null, .null])))) (k := k) (h0 := h0) (f := 23) (fs := [.int 0, .int 0, .ref q1, .ref q2, .ref q3, .ref q4, .ref q5, .int 0, .ref q6, .ref q7, .ref q8, .ref q9, .int 0, .int (Int32.ofInt (-1)), .int (Int32.ofInt (-1)), .int (Int32.ofInt (-1)), .int (Int32.ofInt (-1)), .int 0, .ref q10, .int 0, .int 0, .int 0, .int 0, .null, .null, .null, .null, .null, .null, .null]) (tk := 0) (idx := 54) (N' := 61) hE hx hb (by decide) hown hin hW0 hsz hg hP hD hS (lv_at hl 0 rfl) cn_6_d107 (fun z => lv_bipush hx hb cn_6_d108 (v := 61) rfl z) cn_6_d110 cn_6_d112 rfl rfl rfl aw_0 (by decide) rfl (by decide) (Nat.le_of_ble_eq_true rfl) (Nat.le_of_ble_eq_true rfl) (Nat.le_of_ble_eq_true rfl) (Nat.le_of_ble_eq_true rfl) rfl cn_6_l54 (fun _ => rfl) (fun _ => rfl) (fun q11 H locs hP hD hS => ?_)
  have hg := ct_g1 (y := ct_ar q11 (cA 0) 61) (z := (h0, Sum.inr (6, [.int 0, .int 0, .ref q1, .ref q2, .ref q3, .ref q4, .ref q5, .int 0, .ref q6, .ref q7, .ref q8, .ref q9, .int 0, .int (Int32.ofInt (-1)), .int (Int32.ofInt (-1)), .int (Int32.ofInt (-1)), .int (Int32.ofInt (-1)), .int 0, .ref q10, .int 0, .int 0, .int 0, .int 0, .ref q11, .null, .null, .null, .null, .null, .null]))) hg
  have hP : va_P (dC, dI) ab_cls ((((((((((((((((((((((((((ws ++ [ct_ar q1 (cA 0) 8]).set k (h0, Sum.inr (6, [.int 0, .int 0, .ref q1, .null, .null, .null, .null, .int 0, .null, .null, .null, .null, .int 0, .int 0, .int 0, .int 0, .int 0, .int 0, .null, .int 0, .int 0, .int 0, .int 0, .null, .null, .null, .null, .null, .null, .null]))) ++ [ct_ar q2 (cA 0) 8]).set k (h0, Sum.inr (6, [.int 0, .int 0, .ref q1, .ref q2, .null, .null, .null, .int 0, .null, .null, .null, .null, .int 0, .int 0, .int 0, .int 0, .int 0, .int 0, .null, .int 0, .int 0, .int 0, .int 0, .null, .null, .null, .null, .null, .null, .null]))) ++ [ct_ar q3 (cA 0) 32]).set k (h0, Sum.inr (6, [.int 0, .int 0, .ref q1, .ref q2, .ref q3, .null, .null, .int 0, .null, .null, .null, .null, .int 0, .int 0, .int 0, .int 0, .int 0, .int 0, .null, .int 0, .int 0, .int 0, .int 0, .null, .null, .null, .null, .null, .null, .null]))) ++ [ct_ar q4 (cA 1) 4]).set k (h0, Sum.inr (6, [.int 0, .int 0, .ref q1, .ref q2, .ref q3, .ref q4, .null, .int 0, .null, .null, .null, .null, .int 0, .int 0, .int 0, .int 0, .int 0, .int 0, .null, .int 0, .int 0, .int 0, .int 0, .null, .null, .null, .null, .null, .null, .null]))) ++ [ct_ar q5 (cA 1) 81]).set k (h0, Sum.inr (6, [.int 0, .int 0, .ref q1, .ref q2, .ref q3, .ref q4, .ref q5, .int 0, .null, .null, .null, .null, .int 0, .int 0, .int 0, .int 0, .int 0, .int 0, .null, .int 0, .int 0, .int 0, .int 0, .null, .null, .null, .null, .null, .null, .null]))) ++ [ct_ar q6 (cA 1) 13500]).set k (h0, Sum.inr (6, [.int 0, .int 0, .ref q1, .ref q2, .ref q3, .ref q4, .ref q5, .int 0, .ref q6, .null, .null, .null, .int 0, .int 0, .int 0, .int 0, .int 0, .int 0, .null, .int 0, .int 0, .int 0, .int 0, .null, .null, .null, .null, .null, .null, .null]))) ++ [ct_ar q7 (cA 0) 500]).set k (h0, Sum.inr (6, [.int 0, .int 0, .ref q1, .ref q2, .ref q3, .ref q4, .ref q5, .int 0, .ref q6, .ref q7, .null, .null, .int 0, .int 0, .int 0, .int 0, .int 0, .int 0, .null, .int 0, .int 0, .int 0, .int 0, .null, .null, .null, .null, .null, .null, .null]))) ++ [ct_ar q8 (cA 1) 270]).set k (h0, Sum.inr (6, [.int 0, .int 0, .ref q1, .ref q2, .ref q3, .ref q4, .ref q5, .int 0, .ref q6, .ref q7, .ref q8, .null, .int 0, .int 0, .int 0, .int 0, .int 0, .int 0, .null, .int 0, .int 0, .int 0, .int 0, .null, .null, .null, .null, .null, .null, .null]))) ++ [ct_ar q9 (cA 0) 270]).set k (h0, Sum.inr (6, [.int 0, .int 0, .ref q1, .ref q2, .ref q3, .ref q4, .ref q5, .int 0, .ref q6, .ref q7, .ref q8, .ref q9, .int 0, .int 0, .int 0, .int 0, .int 0, .int 0, .null, .int 0, .int 0, .int 0, .int 0, .null, .null, .null, .null, .null, .null, .null]))).set k (h0, Sum.inr (6, [.int 0, .int 0, .ref q1, .ref q2, .ref q3, .ref q4, .ref q5, .int 0, .ref q6, .ref q7, .ref q8, .ref q9, .int 0, .int (Int32.ofInt (-1)), .int 0, .int 0, .int 0, .int 0, .null, .int 0, .int 0, .int 0, .int 0, .null, .null, .null, .null, .null, .null, .null]))).set k (h0, Sum.inr (6, [.int 0, .int 0, .ref q1, .ref q2, .ref q3, .ref q4, .ref q5, .int 0, .ref q6, .ref q7, .ref q8, .ref q9, .int 0, .int (Int32.ofInt (-1)), .int (Int32.ofInt (-1)), .int 0, .int 0, .int 0, .null, .int 0, .int 0, .int 0, .int 0, .null, .null, .null, .null, .null, .null, .null]))).set k (h0, Sum.inr (6, [.int 0, .int 0, .ref q1, .ref q2, .ref q3, .ref q4, .ref q5, .int 0, .ref q6, .ref q7, .ref q8, .ref q9, .int 0, .int (Int32.ofInt (-1)), .int (Int32.ofInt (-1)), .int (Int32.ofInt (-1)), .int 0, .int 0, .null, .int 0, .int 0, .int 0, .int 0, .null, .null, .null, .null, .null, .null, .null]))).set k (h0, Sum.inr (6, [.int 0, .int 0, .ref q1, .ref q2, .ref q3, .ref q4, .ref q5, .int 0, .ref q6, .ref q7, .ref q8, .ref q9, .int 0, .int (Int32.ofInt (-1)), .int (Int32.ofInt (-1)), .int (Int32.ofInt (-1)), .int (Int32.ofInt (-1)), .int 0, .null, .int 0, .int 0, .int 0, .int 0, .null, .null, .null, .null, .null, .null, .null]))) ++ [ct_ar q10 (cA 0) 20]).set k (h0, Sum.inr (6, [.int 0, .int 0, .ref q1, .ref q2, .ref q3, .ref q4, .ref q5, .int 0, .ref q6, .ref q7, .ref q8, .ref q9, .int 0, .int (Int32.ofInt (-1)), .int (Int32.ofInt (-1)), .int (Int32.ofInt (-1)), .int (Int32.ofInt (-1)), .int 0, .ref q10, .int 0, .int 0, .int 0, .int 0, .null, .null, .null, .null, .null, .null, .null]))) ++ [ct_ar q11 (cA 0) 61]).set k (h0, Sum.inr (6, [.int 0, .int 0, .ref q1, .ref q2, .ref q3, .ref q4, .ref q5, .int 0, .ref q6, .ref q7, .ref q8, .ref q9, .int 0, .int (Int32.ofInt (-1)), .int (Int32.ofInt (-1)), .int (Int32.ofInt (-1)), .int (Int32.ofInt (-1)), .int 0, .ref q10, .int 0, .int 0, .int 0, .int 0, .ref q11, .null, .null, .null, .null, .null, .null]))) H := hP
  have hD : va_D (fun q => s0.heap.size ≤ q) ((((((((((((((((((((((((((ws ++ [ct_ar q1 (cA 0) 8]).set k (h0, Sum.inr (6, [.int 0, .int 0, .ref q1, .null, .null, .null, .null, .int 0, .null, .null, .null, .null, .int 0, .int 0, .int 0, .int 0, .int 0, .int 0, .null, .int 0, .int 0, .int 0, .int 0, .null, .null, .null, .null, .null, .null, .null]))) ++ [ct_ar q2 (cA 0) 8]).set k (h0, Sum.inr (6, [.int 0, .int 0, .ref q1, .ref q2, .null, .null, .null, .int 0, .null, .null, .null, .null, .int 0, .int 0, .int 0, .int 0, .int 0, .int 0, .null, .int 0, .int 0, .int 0, .int 0, .null, .null, .null, .null, .null, .null, .null]))) ++ [ct_ar q3 (cA 0) 32]).set k (h0, Sum.inr (6, [.int 0, .int 0, .ref q1, .ref q2, .ref q3, .null, .null, .int 0, .null, .null, .null, .null, .int 0, .int 0, .int 0, .int 0, .int 0, .int 0, .null, .int 0, .int 0, .int 0, .int 0, .null, .null, .null, .null, .null, .null, .null]))) ++ [ct_ar q4 (cA 1) 4]).set k (h0, Sum.inr (6, [.int 0, .int 0, .ref q1, .ref q2, .ref q3, .ref q4, .null, .int 0, .null, .null, .null, .null, .int 0, .int 0, .int 0, .int 0, .int 0, .int 0, .null, .int 0, .int 0, .int 0, .int 0, .null, .null, .null, .null, .null, .null, .null]))) ++ [ct_ar q5 (cA 1) 81]).set k (h0, Sum.inr (6, [.int 0, .int 0, .ref q1, .ref q2, .ref q3, .ref q4, .ref q5, .int 0, .null, .null, .null, .null, .int 0, .int 0, .int 0, .int 0, .int 0, .int 0, .null, .int 0, .int 0, .int 0, .int 0, .null, .null, .null, .null, .null, .null, .null]))) ++ [ct_ar q6 (cA 1) 13500]).set k (h0, Sum.inr (6, [.int 0, .int 0, .ref q1, .ref q2, .ref q3, .ref q4, .ref q5, .int 0, .ref q6, .null, .null, .null, .int 0, .int 0, .int 0, .int 0, .int 0, .int 0, .null, .int 0, .int 0, .int 0, .int 0, .null, .null, .null, .null, .null, .null, .null]))) ++ [ct_ar q7 (cA 0) 500]).set k (h0, Sum.inr (6, [.int 0, .int 0, .ref q1, .ref q2, .ref q3, .ref q4, .ref q5, .int 0, .ref q6, .ref q7, .null, .null, .int 0, .int 0, .int 0, .int 0, .int 0, .int 0, .null, .int 0, .int 0, .int 0, .int 0, .null, .null, .null, .null, .null, .null, .null]))) ++ [ct_ar q8 (cA 1) 270]).set k (h0, Sum.inr (6, [.int 0, .int 0, .ref q1, .ref q2, .ref q3, .ref q4, .ref q5, .int 0, .ref q6, .ref q7, .ref q8, .null, .int 0, .int 0, .int 0, .int 0, .int 0, .int 0, .null, .int 0, .int 0, .int 0, .int 0, .null, .null, .null, .null, .null, .null, .null]))) ++ [ct_ar q9 (cA 0) 270]).set k (h0, Sum.inr (6, [.int 0, .int 0, .ref q1, .ref q2, .ref q3, .ref q4, .ref q5, .int 0, .ref q6, .ref q7, .ref q8, .ref q9, .int 0, .int 0, .int 0, .int 0, .int 0, .int 0, .null, .int 0, .int 0, .int 0, .int 0, .null, .null, .null, .null, .null, .null, .null]))).set k (h0, Sum.inr (6, [.int 0, .int 0, .ref q1, .ref q2, .ref q3, .ref q4, .ref q5, .int 0, .ref q6, .ref q7, .ref q8, .ref q9, .int 0, .int (Int32.ofInt (-1)), .int 0, .int 0, .int 0, .int 0, .null, .int 0, .int 0, .int 0, .int 0, .null, .null, .null, .null, .null, .null, .null]))).set k (h0, Sum.inr (6, [.int 0, .int 0, .ref q1, .ref q2, .ref q3, .ref q4, .ref q5, .int 0, .ref q6, .ref q7, .ref q8, .ref q9, .int 0, .int (Int32.ofInt (-1)), .int (Int32.ofInt (-1)), .int 0, .int 0, .int 0, .null, .int 0, .int 0, .int 0, .int 0, .null, .null, .null, .null, .null, .null, .null]))).set k (h0, Sum.inr (6, [.int 0, .int 0, .ref q1, .ref q2, .ref q3, .ref q4, .ref q5, .int 0, .ref q6, .ref q7, .ref q8, .ref q9, .int 0, .int (Int32.ofInt (-1)), .int (Int32.ofInt (-1)), .int (Int32.ofInt (-1)), .int 0, .int 0, .null, .int 0, .int 0, .int 0, .int 0, .null, .null, .null, .null, .null, .null, .null]))).set k (h0, Sum.inr (6, [.int 0, .int 0, .ref q1, .ref q2, .ref q3, .ref q4, .ref q5, .int 0, .ref q6, .ref q7, .ref q8, .ref q9, .int 0, .int (Int32.ofInt (-1)), .int (Int32.ofInt (-1)), .int (Int32.ofInt (-1)), .int (Int32.ofInt (-1)), .int 0, .null, .int 0, .int 0, .int 0, .int 0, .null, .null, .null, .null, .null, .null, .null]))) ++ [ct_ar q10 (cA 0) 20]).set k (h0, Sum.inr (6, [.int 0, .int 0, .ref q1, .ref q2, .ref q3, .ref q4, .ref q5, .int 0, .ref q6, .ref q7, .ref q8, .ref q9, .int 0, .int (Int32.ofInt (-1)), .int (Int32.ofInt (-1)), .int (Int32.ofInt (-1)), .int (Int32.ofInt (-1)), .int 0, .ref q10, .int 0, .int 0, .int 0, .int 0, .null, .null, .null, .null, .null, .null, .null]))) ++ [ct_ar q11 (cA 0) 61]).set k (h0, Sum.inr (6, [.int 0, .int 0, .ref q1, .ref q2, .ref q3, .ref q4, .ref q5, .int 0, .ref q6, .ref q7, .ref q8, .ref q9, .int 0, .int (Int32.ofInt (-1)), .int (Int32.ofInt (-1)), .int (Int32.ofInt (-1)), .int (Int32.ofInt (-1)), .int 0, .ref q10, .int 0, .int 0, .int 0, .int 0, .ref q11, .null, .null, .null, .null, .null, .null]))) := hD
  refine ct_arr (ws := ((((((((((((((((((((((((((ws ++ [ct_ar q1 (cA 0) 8]).set k (h0, Sum.inr (6, [.int 0, .int 0, .ref q1, .null, .null, .null, .null, .int 0, .null, .null, .null, .null, .int 0, .int 0, .int 0, .int 0, .int 0, .int 0, .null, .int 0, .int 0, .int 0, .int 0, .null, .null, .null, .null, .null, .null, .null]))) ++ [ct_ar q2 (cA 0) 8]).set k (h0, Sum.inr (6, [.int 0, .int 0, .ref q1, .ref q2, .null, .null, .null, .int 0, .null, .null, .null, .null, .int 0, .int 0, .int 0, .int 0, .int 0, .int 0, .null, .int 0, .int 0, .int 0, .int 0, .null, .null, .null, .null, .null, .null, .null]))) ++ [ct_ar q3 (cA 0) 32]).set k (h0, Sum.inr (6, [.int 0, .int 0, .ref q1, .ref q2, .ref q3, .null, .null, .int 0, .null, .null, .null, .null, .int 0, .int 0, .int 0, .int 0, .int 0, .int 0, .null, .int 0, .int 0, .int 0, .int 0, .null, .null, .null, .null, .null, .null, .null]))) ++ [ct_ar q4 (cA 1) 4]).set k (h0, Sum.inr (6, [.int 0, .int 0, .ref q1, .ref q2, .ref q3, .ref q4, .null, .int 0, .null, .null, .null, .null, .int 0, .int 0, .int 0, .int 0, .int 0, .int 0, .null, .int 0, .int 0, .int 0, .int 0, .null, .null, .null, .null, .null, .null, .null]))) ++ [ct_ar q5 (cA 1) 81]).set k (h0, Sum.inr (6, [.int 0, .int 0, .ref q1, .ref q2, .ref q3, .ref q4, .ref q5, .int 0, .null, .null, .null, .null, .int 0, .int 0, .int 0, .int 0, .int 0, .int 0, .null, .int 0, .int 0, .int 0, .int 0, .null, .null, .null, .null, .null, .null, .null]))) ++ [ct_ar q6 (cA 1) 13500]).set k (h0, Sum.inr (6, [.int 0, .int 0, .ref q1, .ref q2, .ref q3, .ref q4, .ref q5, .int 0, .ref q6, .null, .null, .null, .int 0, .int 0, .int 0, .int 0, .int 0, .int 0, .null, .int 0, .int 0, .int 0, .int 0, .null, .null, .null, .null, .null, .null, .null]))) ++ [ct_ar q7 (cA 0) 500]).set k (h0, Sum.inr (6, [.int 0, .int 0, .ref q1, .ref q2, .ref q3, .ref q4, .ref q5, .int 0, .ref q6, .ref q7, .null, .null, .int 0, .int 0, .int 0, .int 0, .int 0, .int 0, .null, .int 0, .int 0, .int 0, .int 0, .null, .null, .null, .null, .null, .null, .null]))) ++ [ct_ar q8 (cA 1) 270]).set k (h0, Sum.inr (6, [.int 0, .int 0, .ref q1, .ref q2, .ref q3, .ref q4, .ref q5, .int 0, .ref q6, .ref q7, .ref q8, .null, .int 0, .int 0, .int 0, .int 0, .int 0, .int 0, .null, .int 0, .int 0, .int 0, .int 0, .null, .null, .null, .null, .null, .null, .null]))) ++ [ct_ar q9 (cA 0) 270]).set k (h0, Sum.inr (6, [.int 0, .int 0, .ref q1, .ref q2, .ref q3, .ref q4, .ref q5, .int 0, .ref q6, .ref q7, .ref q8, .ref q9, .int 0, .int 0, .int 0, .int 0, .int 0, .int 0, .null, .int 0, .int 0, .int 0, .int 0, .null, .null, .null, .null, .null, .null, .null]))).set k (h0, Sum.inr (6, [.int 0, .int 0, .ref q1, .ref q2, .ref q3, .ref q4, .ref q5, .int 0, .ref q6, .ref q7, .ref q8, .ref q9, .int 0, .int (Int32.ofInt (-1)), .int 0, .int 0, .int 0, .int 0, .null, .int 0, .int 0, .int 0, .int 0, .null, .null, .null, .null, .null, .null, .null]))).set k (h0, Sum.inr (6, [.int 0, .int 0, .ref q1, .ref q2, .ref q3, .ref q4, .ref q5, .int 0, .ref q6, .ref q7, .ref q8, .ref q9, .int 0, .int (Int32.ofInt (-1)), .int (Int32.ofInt (-1)), .int 0, .int 0, .int 0, .null, .int 0, .int 0, .int 0, .int 0, .null, .null, .null, .null, .null, .null, .null]))).set k (h0, Sum.inr (6, [.int 0, .int 0, .ref q1, .ref q2, .ref q3, .ref q4, .ref q5, .int 0, .ref q6, .ref q7, .ref q8, .ref q9, .int 0, .int (Int32.ofInt (-1)), .int (Int32.ofInt (-1)), .int (Int32.ofInt (-1)), .int 0, .int 0, .null, .int 0, .int 0, .int 0, .int 0, .null, .null, .null, .null, .null, .null, .null]))).set k (h0, Sum.inr (6, [.int 0, .int 0, .ref q1, .ref q2, .ref q3, .ref q4, .ref q5, .int 0, .ref q6, .ref q7, .ref q8, .ref q9, .int 0, .int (Int32.ofInt (-1)), .int (Int32.ofInt (-1)), .int (Int32.ofInt (-1)), .int (Int32.ofInt (-1)), .int 0, .null, .int 0, .int 0, .int 0, .int 0, .null, .null, .null, .null, .null, .null, .null]))) ++ [ct_ar q10 (cA 0) 20]).set k (h0, Sum.inr (6, [.int 0, .int 0, .ref q1, .ref q2, .ref q3, .ref q4, .ref q5, .int 0, .ref q6, .ref q7, .ref q8, .ref q9, .int 0, .int (Int32.ofInt (-1)), .int (Int32.ofInt (-1)), .int (Int32.ofInt (-1)), .int (Int32.ofInt (-1)), .int 0, .ref q10, .int 0, .int 0, .int 0, .int 0, .null, .null, .null, .null, .null, .null, .null]))) ++ [ct_ar q11 (cA 0) 61]).set k (h0, Sum.inr (6, [.int 0, .int 0, .ref q1, .ref q2, .ref q3, .ref q4, .ref q5, .int 0, .ref q6, .ref q7, .ref q8, .ref q9, .int 0, .int (Int32.ofInt (-1)), .int (Int32.ofInt (-1)), .int (Int32.ofInt (-1)), .int (Int32.ofInt (-1)), .int 0, .ref q10, .int 0, .int 0, .int 0, .int 0, .ref q11, .null, .null, .null, .null, .null, .null])))) (k := k) (h0 := h0) (f := 24) (fs := [.int 0, .int 0, .ref q1, .ref q2, .ref q3, .ref q4, .ref q5, .int 0, .ref q6, .ref q7, .ref q8, .ref q9, .int 0, .int (Int32.ofInt (-1)), .int (Int32.ofInt (-1)), .int (Int32.ofInt (-1)), .int (Int32.ofInt (-1)), .int 0, .ref q10, .int 0, .int 0, .int 0, .int 0, .ref q11, .null, .null, .null, .null, .null, .null]) (tk := 0) (idx := 57) (N' := 61) hE hx hb (by decide) hown hin hW0 hsz hg hP hD hS (lv_at hl 0 rfl) cn_6_d115 (fun z => lv_bipush hx hb cn_6_d116 (v := 61) rfl z) cn_6_d118 cn_6_d120 rfl rfl rfl aw_0 (by decide) rfl (by decide) (Nat.le_of_ble_eq_true rfl) (Nat.le_of_ble_eq_true rfl) (Nat.le_of_ble_eq_true rfl) (Nat.le_of_ble_eq_true rfl) rfl cn_6_l57 (fun _ => rfl) (fun _ => rfl) (fun q12 H locs hP hD hS => ?_)
  have hg := ct_g1 (y := ct_ar q12 (cA 0) 61) (z := (h0, Sum.inr (6, [.int 0, .int 0, .ref q1, .ref q2, .ref q3, .ref q4, .ref q5, .int 0, .ref q6, .ref q7, .ref q8, .ref q9, .int 0, .int (Int32.ofInt (-1)), .int (Int32.ofInt (-1)), .int (Int32.ofInt (-1)), .int (Int32.ofInt (-1)), .int 0, .ref q10, .int 0, .int 0, .int 0, .int 0, .ref q11, .ref q12, .null, .null, .null, .null, .null]))) hg
  have hP : va_P (dC, dI) ab_cls ((((((((((((((((((((((((((((ws ++ [ct_ar q1 (cA 0) 8]).set k (h0, Sum.inr (6, [.int 0, .int 0, .ref q1, .null, .null, .null, .null, .int 0, .null, .null, .null, .null, .int 0, .int 0, .int 0, .int 0, .int 0, .int 0, .null, .int 0, .int 0, .int 0, .int 0, .null, .null, .null, .null, .null, .null, .null]))) ++ [ct_ar q2 (cA 0) 8]).set k (h0, Sum.inr (6, [.int 0, .int 0, .ref q1, .ref q2, .null, .null, .null, .int 0, .null, .null, .null, .null, .int 0, .int 0, .int 0, .int 0, .int 0, .int 0, .null, .int 0, .int 0, .int 0, .int 0, .null, .null, .null, .null, .null, .null, .null]))) ++ [ct_ar q3 (cA 0) 32]).set k (h0, Sum.inr (6, [.int 0, .int 0, .ref q1, .ref q2, .ref q3, .null, .null, .int 0, .null, .null, .null, .null, .int 0, .int 0, .int 0, .int 0, .int 0, .int 0, .null, .int 0, .int 0, .int 0, .int 0, .null, .null, .null, .null, .null, .null, .null]))) ++ [ct_ar q4 (cA 1) 4]).set k (h0, Sum.inr (6, [.int 0, .int 0, .ref q1, .ref q2, .ref q3, .ref q4, .null, .int 0, .null, .null, .null, .null, .int 0, .int 0, .int 0, .int 0, .int 0, .int 0, .null, .int 0, .int 0, .int 0, .int 0, .null, .null, .null, .null, .null, .null, .null]))) ++ [ct_ar q5 (cA 1) 81]).set k (h0, Sum.inr (6, [.int 0, .int 0, .ref q1, .ref q2, .ref q3, .ref q4, .ref q5, .int 0, .null, .null, .null, .null, .int 0, .int 0, .int 0, .int 0, .int 0, .int 0, .null, .int 0, .int 0, .int 0, .int 0, .null, .null, .null, .null, .null, .null, .null]))) ++ [ct_ar q6 (cA 1) 13500]).set k (h0, Sum.inr (6, [.int 0, .int 0, .ref q1, .ref q2, .ref q3, .ref q4, .ref q5, .int 0, .ref q6, .null, .null, .null, .int 0, .int 0, .int 0, .int 0, .int 0, .int 0, .null, .int 0, .int 0, .int 0, .int 0, .null, .null, .null, .null, .null, .null, .null]))) ++ [ct_ar q7 (cA 0) 500]).set k (h0, Sum.inr (6, [.int 0, .int 0, .ref q1, .ref q2, .ref q3, .ref q4, .ref q5, .int 0, .ref q6, .ref q7, .null, .null, .int 0, .int 0, .int 0, .int 0, .int 0, .int 0, .null, .int 0, .int 0, .int 0, .int 0, .null, .null, .null, .null, .null, .null, .null]))) ++ [ct_ar q8 (cA 1) 270]).set k (h0, Sum.inr (6, [.int 0, .int 0, .ref q1, .ref q2, .ref q3, .ref q4, .ref q5, .int 0, .ref q6, .ref q7, .ref q8, .null, .int 0, .int 0, .int 0, .int 0, .int 0, .int 0, .null, .int 0, .int 0, .int 0, .int 0, .null, .null, .null, .null, .null, .null, .null]))) ++ [ct_ar q9 (cA 0) 270]).set k (h0, Sum.inr (6, [.int 0, .int 0, .ref q1, .ref q2, .ref q3, .ref q4, .ref q5, .int 0, .ref q6, .ref q7, .ref q8, .ref q9, .int 0, .int 0, .int 0, .int 0, .int 0, .int 0, .null, .int 0, .int 0, .int 0, .int 0, .null, .null, .null, .null, .null, .null, .null]))).set k (h0, Sum.inr (6, [.int 0, .int 0, .ref q1, .ref q2, .ref q3, .ref q4, .ref q5, .int 0, .ref q6, .ref q7, .ref q8, .ref q9, .int 0, .int (Int32.ofInt (-1)), .int 0, .int 0, .int 0, .int 0, .null, .int 0, .int 0, .int 0, .int 0, .null, .null, .null, .null, .null, .null, .null]))).set k (h0, Sum.inr (6, [.int 0, .int 0, .ref q1, .ref q2, .ref q3, .ref q4, .ref q5, .int 0, .ref q6, .ref q7, .ref q8, .ref q9, .int 0, .int (Int32.ofInt (-1)), .int (Int32.ofInt (-1)), .int 0, .int 0, .int 0, .null, .int 0, .int 0, .int 0, .int 0, .null, .null, .null, .null, .null, .null, .null]))).set k (h0, Sum.inr (6, [.int 0, .int 0, .ref q1, .ref q2, .ref q3, .ref q4, .ref q5, .int 0, .ref q6, .ref q7, .ref q8, .ref q9, .int 0, .int (Int32.ofInt (-1)), .int (Int32.ofInt (-1)), .int (Int32.ofInt (-1)), .int 0, .int 0, .null, .int 0, .int 0, .int 0, .int 0, .null, .null, .null, .null, .null, .null, .null]))).set k (h0, Sum.inr (6, [.int 0, .int 0, .ref q1, .ref q2, .ref q3, .ref q4, .ref q5, .int 0, .ref q6, .ref q7, .ref q8, .ref q9, .int 0, .int (Int32.ofInt (-1)), .int (Int32.ofInt (-1)), .int (Int32.ofInt (-1)), .int (Int32.ofInt (-1)), .int 0, .null, .int 0, .int 0, .int 0, .int 0, .null, .null, .null, .null, .null, .null, .null]))) ++ [ct_ar q10 (cA 0) 20]).set k (h0, Sum.inr (6, [.int 0, .int 0, .ref q1, .ref q2, .ref q3, .ref q4, .ref q5, .int 0, .ref q6, .ref q7, .ref q8, .ref q9, .int 0, .int (Int32.ofInt (-1)), .int (Int32.ofInt (-1)), .int (Int32.ofInt (-1)), .int (Int32.ofInt (-1)), .int 0, .ref q10, .int 0, .int 0, .int 0, .int 0, .null, .null, .null, .null, .null, .null, .null]))) ++ [ct_ar q11 (cA 0) 61]).set k (h0, Sum.inr (6, [.int 0, .int 0, .ref q1, .ref q2, .ref q3, .ref q4, .ref q5, .int 0, .ref q6, .ref q7, .ref q8, .ref q9, .int 0, .int (Int32.ofInt (-1)), .int (Int32.ofInt (-1)), .int (Int32.ofInt (-1)), .int (Int32.ofInt (-1)), .int 0, .ref q10, .int 0, .int 0, .int 0, .int 0, .ref q11, .null, .null, .null, .null, .null, .null]))) ++ [ct_ar q12 (cA 0) 61]).set k (h0, Sum.inr (6, [.int 0, .int 0, .ref q1, .ref q2, .ref q3, .ref q4, .ref q5, .int 0, .ref q6, .ref q7, .ref q8, .ref q9, .int 0, .int (Int32.ofInt (-1)), .int (Int32.ofInt (-1)), .int (Int32.ofInt (-1)), .int (Int32.ofInt (-1)), .int 0, .ref q10, .int 0, .int 0, .int 0, .int 0, .ref q11, .ref q12, .null, .null, .null, .null, .null]))) H := hP
  have hD : va_D (fun q => s0.heap.size ≤ q) ((((((((((((((((((((((((((((ws ++ [ct_ar q1 (cA 0) 8]).set k (h0, Sum.inr (6, [.int 0, .int 0, .ref q1, .null, .null, .null, .null, .int 0, .null, .null, .null, .null, .int 0, .int 0, .int 0, .int 0, .int 0, .int 0, .null, .int 0, .int 0, .int 0, .int 0, .null, .null, .null, .null, .null, .null, .null]))) ++ [ct_ar q2 (cA 0) 8]).set k (h0, Sum.inr (6, [.int 0, .int 0, .ref q1, .ref q2, .null, .null, .null, .int 0, .null, .null, .null, .null, .int 0, .int 0, .int 0, .int 0, .int 0, .int 0, .null, .int 0, .int 0, .int 0, .int 0, .null, .null, .null, .null, .null, .null, .null]))) ++ [ct_ar q3 (cA 0) 32]).set k (h0, Sum.inr (6, [.int 0, .int 0, .ref q1, .ref q2, .ref q3, .null, .null, .int 0, .null, .null, .null, .null, .int 0, .int 0, .int 0, .int 0, .int 0, .int 0, .null, .int 0, .int 0, .int 0, .int 0, .null, .null, .null, .null, .null, .null, .null]))) ++ [ct_ar q4 (cA 1) 4]).set k (h0, Sum.inr (6, [.int 0, .int 0, .ref q1, .ref q2, .ref q3, .ref q4, .null, .int 0, .null, .null, .null, .null, .int 0, .int 0, .int 0, .int 0, .int 0, .int 0, .null, .int 0, .int 0, .int 0, .int 0, .null, .null, .null, .null, .null, .null, .null]))) ++ [ct_ar q5 (cA 1) 81]).set k (h0, Sum.inr (6, [.int 0, .int 0, .ref q1, .ref q2, .ref q3, .ref q4, .ref q5, .int 0, .null, .null, .null, .null, .int 0, .int 0, .int 0, .int 0, .int 0, .int 0, .null, .int 0, .int 0, .int 0, .int 0, .null, .null, .null, .null, .null, .null, .null]))) ++ [ct_ar q6 (cA 1) 13500]).set k (h0, Sum.inr (6, [.int 0, .int 0, .ref q1, .ref q2, .ref q3, .ref q4, .ref q5, .int 0, .ref q6, .null, .null, .null, .int 0, .int 0, .int 0, .int 0, .int 0, .int 0, .null, .int 0, .int 0, .int 0, .int 0, .null, .null, .null, .null, .null, .null, .null]))) ++ [ct_ar q7 (cA 0) 500]).set k (h0, Sum.inr (6, [.int 0, .int 0, .ref q1, .ref q2, .ref q3, .ref q4, .ref q5, .int 0, .ref q6, .ref q7, .null, .null, .int 0, .int 0, .int 0, .int 0, .int 0, .int 0, .null, .int 0, .int 0, .int 0, .int 0, .null, .null, .null, .null, .null, .null, .null]))) ++ [ct_ar q8 (cA 1) 270]).set k (h0, Sum.inr (6, [.int 0, .int 0, .ref q1, .ref q2, .ref q3, .ref q4, .ref q5, .int 0, .ref q6, .ref q7, .ref q8, .null, .int 0, .int 0, .int 0, .int 0, .int 0, .int 0, .null, .int 0, .int 0, .int 0, .int 0, .null, .null, .null, .null, .null, .null, .null]))) ++ [ct_ar q9 (cA 0) 270]).set k (h0, Sum.inr (6, [.int 0, .int 0, .ref q1, .ref q2, .ref q3, .ref q4, .ref q5, .int 0, .ref q6, .ref q7, .ref q8, .ref q9, .int 0, .int 0, .int 0, .int 0, .int 0, .int 0, .null, .int 0, .int 0, .int 0, .int 0, .null, .null, .null, .null, .null, .null, .null]))).set k (h0, Sum.inr (6, [.int 0, .int 0, .ref q1, .ref q2, .ref q3, .ref q4, .ref q5, .int 0, .ref q6, .ref q7, .ref q8, .ref q9, .int 0, .int (Int32.ofInt (-1)), .int 0, .int 0, .int 0, .int 0, .null, .int 0, .int 0, .int 0, .int 0, .null, .null, .null, .null, .null, .null, .null]))).set k (h0, Sum.inr (6, [.int 0, .int 0, .ref q1, .ref q2, .ref q3, .ref q4, .ref q5, .int 0, .ref q6, .ref q7, .ref q8, .ref q9, .int 0, .int (Int32.ofInt (-1)), .int (Int32.ofInt (-1)), .int 0, .int 0, .int 0, .null, .int 0, .int 0, .int 0, .int 0, .null, .null, .null, .null, .null, .null, .null]))).set k (h0, Sum.inr (6, [.int 0, .int 0, .ref q1, .ref q2, .ref q3, .ref q4, .ref q5, .int 0, .ref q6, .ref q7, .ref q8, .ref q9, .int 0, .int (Int32.ofInt (-1)), .int (Int32.ofInt (-1)), .int (Int32.ofInt (-1)), .int 0, .int 0, .null, .int 0, .int 0, .int 0, .int 0, .null, .null, .null, .null, .null, .null, .null]))).set k (h0, Sum.inr (6, [.int 0, .int 0, .ref q1, .ref q2, .ref q3, .ref q4, .ref q5, .int 0, .ref q6, .ref q7, .ref q8, .ref q9, .int 0, .int (Int32.ofInt (-1)), .int (Int32.ofInt (-1)), .int (Int32.ofInt (-1)), .int (Int32.ofInt (-1)), .int 0, .null, .int 0, .int 0, .int 0, .int 0, .null, .null, .null, .null, .null, .null, .null]))) ++ [ct_ar q10 (cA 0) 20]).set k (h0, Sum.inr (6, [.int 0, .int 0, .ref q1, .ref q2, .ref q3, .ref q4, .ref q5, .int 0, .ref q6, .ref q7, .ref q8, .ref q9, .int 0, .int (Int32.ofInt (-1)), .int (Int32.ofInt (-1)), .int (Int32.ofInt (-1)), .int (Int32.ofInt (-1)), .int 0, .ref q10, .int 0, .int 0, .int 0, .int 0, .null, .null, .null, .null, .null, .null, .null]))) ++ [ct_ar q11 (cA 0) 61]).set k (h0, Sum.inr (6, [.int 0, .int 0, .ref q1, .ref q2, .ref q3, .ref q4, .ref q5, .int 0, .ref q6, .ref q7, .ref q8, .ref q9, .int 0, .int (Int32.ofInt (-1)), .int (Int32.ofInt (-1)), .int (Int32.ofInt (-1)), .int (Int32.ofInt (-1)), .int 0, .ref q10, .int 0, .int 0, .int 0, .int 0, .ref q11, .null, .null, .null, .null, .null, .null]))) ++ [ct_ar q12 (cA 0) 61]).set k (h0, Sum.inr (6, [.int 0, .int 0, .ref q1, .ref q2, .ref q3, .ref q4, .ref q5, .int 0, .ref q6, .ref q7, .ref q8, .ref q9, .int 0, .int (Int32.ofInt (-1)), .int (Int32.ofInt (-1)), .int (Int32.ofInt (-1)), .int (Int32.ofInt (-1)), .int 0, .ref q10, .int 0, .int 0, .int 0, .int 0, .ref q11, .ref q12, .null, .null, .null, .null, .null]))) := hD
  refine ct_arr (ws := ((((((((((((((((((((((((((((ws ++ [ct_ar q1 (cA 0) 8]).set k (h0, Sum.inr (6, [.int 0, .int 0, .ref q1, .null, .null, .null, .null, .int 0, .null, .null, .null, .null, .int 0, .int 0, .int 0, .int 0, .int 0, .int 0, .null, .int 0, .int 0, .int 0, .int 0, .null, .null, .null, .null, .null, .null, .null]))) ++ [ct_ar q2 (cA 0) 8]).set k (h0, Sum.inr (6, [.int 0, .int 0, .ref q1, .ref q2, .null, .null, .null, .int 0, .null, .null, .null, .null, .int 0, .int 0, .int 0, .int 0, .int 0, .int 0, .null, .int 0, .int 0, .int 0, .int 0, .null, .null, .null, .null, .null, .null, .null]))) ++ [ct_ar q3 (cA 0) 32]).set k (h0, Sum.inr (6, [.int 0, .int 0, .ref q1, .ref q2, .ref q3, .null, .null, .int 0, .null, .null, .null, .null, .int 0, .int 0, .int 0, .int 0, .int 0, .int 0, .null, .int 0, .int 0, .int 0, .int 0, .null, .null, .null, .null, .null, .null, .null]))) ++ [ct_ar q4 (cA 1) 4]).set k (h0, Sum.inr (6, [.int 0, .int 0, .ref q1, .ref q2, .ref q3, .ref q4, .null, .int 0, .null, .null, .null, .null, .int 0, .int 0, .int 0, .int 0, .int 0, .int 0, .null, .int 0, .int 0, .int 0, .int 0, .null, .null, .null, .null, .null, .null, .null]))) ++ [ct_ar q5 (cA 1) 81]).set k (h0, Sum.inr (6, [.int 0, .int 0, .ref q1, .ref q2, .ref q3, .ref q4, .ref q5, .int 0, .null, .null, .null, .null, .int 0, .int 0, .int 0, .int 0, .int 0, .int 0, .null, .int 0, .int 0, .int 0, .int 0, .null, .null, .null, .null, .null, .null, .null]))) ++ [ct_ar q6 (cA 1) 13500]).set k (h0, Sum.inr (6, [.int 0, .int 0, .ref q1, .ref q2, .ref q3, .ref q4, .ref q5, .int 0, .ref q6, .null, .null, .null, .int 0, .int 0, .int 0, .int 0, .int 0, .int 0, .null, .int 0, .int 0, .int 0, .int 0, .null, .null, .null, .null, .null, .null, .null]))) ++ [ct_ar q7 (cA 0) 500]).set k (h0, Sum.inr (6, [.int 0, .int 0, .ref q1, .ref q2, .ref q3, .ref q4, .ref q5, .int 0, .ref q6, .ref q7, .null, .null, .int 0, .int 0, .int 0, .int 0, .int 0, .int 0, .null, .int 0, .int 0, .int 0, .int 0, .null, .null, .null, .null, .null, .null, .null]))) ++ [ct_ar q8 (cA 1) 270]).set k (h0, Sum.inr (6, [.int 0, .int 0, .ref q1, .ref q2, .ref q3, .ref q4, .ref q5, .int 0, .ref q6, .ref q7, .ref q8, .null, .int 0, .int 0, .int 0, .int 0, .int 0, .int 0, .null, .int 0, .int 0, .int 0, .int 0, .null, .null, .null, .null, .null, .null, .null]))) ++ [ct_ar q9 (cA 0) 270]).set k (h0, Sum.inr (6, [.int 0, .int 0, .ref q1, .ref q2, .ref q3, .ref q4, .ref q5, .int 0, .ref q6, .ref q7, .ref q8, .ref q9, .int 0, .int 0, .int 0, .int 0, .int 0, .int 0, .null, .int 0, .int 0, .int 0, .int 0, .null, .null, .null, .null, .null, .null, .null]))).set k (h0, Sum.inr (6, [.int 0, .int 0, .ref q1, .ref q2, .ref q3, .ref q4, .ref q5, .int 0, .ref q6, .ref q7, .ref q8, .ref q9, .int 0, .int (Int32.ofInt (-1)), .int 0, .int 0, .int 0, .int 0, .null, .int 0, .int 0, .int 0, .int 0, .null, .null, .null, .null, .null, .null, .null]))).set k (h0, Sum.inr (6, [.int 0, .int 0, .ref q1, .ref q2, .ref q3, .ref q4, .ref q5, .int 0, .ref q6, .ref q7, .ref q8, .ref q9, .int 0, .int (Int32.ofInt (-1)), .int (Int32.ofInt (-1)), .int 0, .int 0, .int 0, .null, .int 0, .int 0, .int 0, .int 0, .null, .null, .null, .null, .null, .null, .null]))).set k (h0, Sum.inr (6, [.int 0, .int 0, .ref q1, .ref q2, .ref q3, .ref q4, .ref q5, .int 0, .ref q6, .ref q7, .ref q8, .ref q9, .int 0, .int (Int32.ofInt (-1)), .int (Int32.ofInt (-1)), .int (Int32.ofInt (-1)), .int 0, .int 0, .null, .int 0, .int 0, .int 0, .int 0, .null, .null, .null, .null, .null, .null, .null]))).set k (h0, Sum.inr (6, [.int 0, .int 0, .ref q1, .ref q2, .ref q3, .ref q4, .ref q5, .int 0, .ref q6, .ref q7, .ref q8, .ref q9, .int 0, .int (Int32.ofInt (-1)), .int (Int32.ofInt (-1)), .int (Int32.ofInt (-1)), .int (Int32.ofInt (-1)), .int 0, .null, .int 0, .int 0, .int 0, .int 0, .null, .null, .null, .null, .null, .null, .null]))) ++ [ct_ar q10 (cA 0) 20]).set k (h0, Sum.inr (6, [.int 0, .int 0, .ref q1, .ref q2, .ref q3, .ref q4, .ref q5, .int 0, .ref q6, .ref q7, .ref q8, .ref q9, .int 0, .int (Int32.ofInt (-1)), .int (Int32.ofInt (-1)), .int (Int32.ofInt (-1)), .int (Int32.ofInt (-1)), .int 0, .ref q10, .int 0, .int 0, .int 0, .int 0, .null, .null, .null, .null, .null, .null, .null]))) ++ [ct_ar q11 (cA 0) 61]).set k (h0, Sum.inr (6, [.int 0, .int 0, .ref q1, .ref q2, .ref q3, .ref q4, .ref q5, .int 0, .ref q6, .ref q7, .ref q8, .ref q9, .int 0, .int (Int32.ofInt (-1)), .int (Int32.ofInt (-1)), .int (Int32.ofInt (-1)), .int (Int32.ofInt (-1)), .int 0, .ref q10, .int 0, .int 0, .int 0, .int 0, .ref q11, .null, .null, .null, .null, .null, .null]))) ++ [ct_ar q12 (cA 0) 61]).set k (h0, Sum.inr (6, [.int 0, .int 0, .ref q1, .ref q2, .ref q3, .ref q4, .ref q5, .int 0, .ref q6, .ref q7, .ref q8, .ref q9, .int 0, .int (Int32.ofInt (-1)), .int (Int32.ofInt (-1)), .int (Int32.ofInt (-1)), .int (Int32.ofInt (-1)), .int 0, .ref q10, .int 0, .int 0, .int 0, .int 0, .ref q11, .ref q12, .null, .null, .null, .null, .null])))) (k := k) (h0 := h0) (f := 25) (fs := [.int 0, .int 0, .ref q1, .ref q2, .ref q3, .ref q4, .ref q5, .int 0, .ref q6, .ref q7, .ref q8, .ref q9, .int 0, .int (Int32.ofInt (-1)), .int (Int32.ofInt (-1)), .int (Int32.ofInt (-1)), .int (Int32.ofInt (-1)), .int 0, .ref q10, .int 0, .int 0, .int 0, .int 0, .ref q11, .ref q12, .null, .null, .null, .null, .null]) (tk := 0) (idx := 60) (N' := 60) hE hx hb (by decide) hown hin hW0 hsz hg hP hD hS (lv_at hl 0 rfl) cn_6_d123 (fun z => lv_bipush hx hb cn_6_d124 (v := 60) rfl z) cn_6_d126 cn_6_d128 rfl rfl rfl aw_0 (by decide) rfl (by decide) (Nat.le_of_ble_eq_true rfl) (Nat.le_of_ble_eq_true rfl) (Nat.le_of_ble_eq_true rfl) (Nat.le_of_ble_eq_true rfl) rfl cn_6_l60 (fun _ => rfl) (fun _ => rfl) (fun q13 H locs hP hD hS => ?_)
  have hg := ct_g1 (y := ct_ar q13 (cA 0) 60) (z := (h0, Sum.inr (6, [.int 0, .int 0, .ref q1, .ref q2, .ref q3, .ref q4, .ref q5, .int 0, .ref q6, .ref q7, .ref q8, .ref q9, .int 0, .int (Int32.ofInt (-1)), .int (Int32.ofInt (-1)), .int (Int32.ofInt (-1)), .int (Int32.ofInt (-1)), .int 0, .ref q10, .int 0, .int 0, .int 0, .int 0, .ref q11, .ref q12, .ref q13, .null, .null, .null, .null]))) hg
  have hP : va_P (dC, dI) ab_cls ((((((((((((((((((((((((((((((ws ++ [ct_ar q1 (cA 0) 8]).set k (h0, Sum.inr (6, [.int 0, .int 0, .ref q1, .null, .null, .null, .null, .int 0, .null, .null, .null, .null, .int 0, .int 0, .int 0, .int 0, .int 0, .int 0, .null, .int 0, .int 0, .int 0, .int 0, .null, .null, .null, .null, .null, .null, .null]))) ++ [ct_ar q2 (cA 0) 8]).set k (h0, Sum.inr (6, [.int 0, .int 0, .ref q1, .ref q2, .null, .null, .null, .int 0, .null, .null, .null, .null, .int 0, .int 0, .int 0, .int 0, .int 0, .int 0, .null, .int 0, .int 0, .int 0, .int 0, .null, .null, .null, .null, .null, .null, .null]))) ++ [ct_ar q3 (cA 0) 32]).set k (h0, Sum.inr (6, [.int 0, .int 0, .ref q1, .ref q2, .ref q3, .null, .null, .int 0, .null, .null, .null, .null, .int 0, .int 0, .int 0, .int 0, .int 0, .int 0, .null, .int 0, .int 0, .int 0, .int 0, .null, .null, .null, .null, .null, .null, .null]))) ++ [ct_ar q4 (cA 1) 4]).set k (h0, Sum.inr (6, [.int 0, .int 0, .ref q1, .ref q2, .ref q3, .ref q4, .null, .int 0, .null, .null, .null, .null, .int 0, .int 0, .int 0, .int 0, .int 0, .int 0, .null, .int 0, .int 0, .int 0, .int 0, .null, .null, .null, .null, .null, .null, .null]))) ++ [ct_ar q5 (cA 1) 81]).set k (h0, Sum.inr (6, [.int 0, .int 0, .ref q1, .ref q2, .ref q3, .ref q4, .ref q5, .int 0, .null, .null, .null, .null, .int 0, .int 0, .int 0, .int 0, .int 0, .int 0, .null, .int 0, .int 0, .int 0, .int 0, .null, .null, .null, .null, .null, .null, .null]))) ++ [ct_ar q6 (cA 1) 13500]).set k (h0, Sum.inr (6, [.int 0, .int 0, .ref q1, .ref q2, .ref q3, .ref q4, .ref q5, .int 0, .ref q6, .null, .null, .null, .int 0, .int 0, .int 0, .int 0, .int 0, .int 0, .null, .int 0, .int 0, .int 0, .int 0, .null, .null, .null, .null, .null, .null, .null]))) ++ [ct_ar q7 (cA 0) 500]).set k (h0, Sum.inr (6, [.int 0, .int 0, .ref q1, .ref q2, .ref q3, .ref q4, .ref q5, .int 0, .ref q6, .ref q7, .null, .null, .int 0, .int 0, .int 0, .int 0, .int 0, .int 0, .null, .int 0, .int 0, .int 0, .int 0, .null, .null, .null, .null, .null, .null, .null]))) ++ [ct_ar q8 (cA 1) 270]).set k (h0, Sum.inr (6, [.int 0, .int 0, .ref q1, .ref q2, .ref q3, .ref q4, .ref q5, .int 0, .ref q6, .ref q7, .ref q8, .null, .int 0, .int 0, .int 0, .int 0, .int 0, .int 0, .null, .int 0, .int 0, .int 0, .int 0, .null, .null, .null, .null, .null, .null, .null]))) ++ [ct_ar q9 (cA 0) 270]).set k (h0, Sum.inr (6, [.int 0, .int 0, .ref q1, .ref q2, .ref q3, .ref q4, .ref q5, .int 0, .ref q6, .ref q7, .ref q8, .ref q9, .int 0, .int 0, .int 0, .int 0, .int 0, .int 0, .null, .int 0, .int 0, .int 0, .int 0, .null, .null, .null, .null, .null, .null, .null]))).set k (h0, Sum.inr (6, [.int 0, .int 0, .ref q1, .ref q2, .ref q3, .ref q4, .ref q5, .int 0, .ref q6, .ref q7, .ref q8, .ref q9, .int 0, .int (Int32.ofInt (-1)), .int 0, .int 0, .int 0, .int 0, .null, .int 0, .int 0, .int 0, .int 0, .null, .null, .null, .null, .null, .null, .null]))).set k (h0, Sum.inr (6, [.int 0, .int 0, .ref q1, .ref q2, .ref q3, .ref q4, .ref q5, .int 0, .ref q6, .ref q7, .ref q8, .ref q9, .int 0, .int (Int32.ofInt (-1)), .int (Int32.ofInt (-1)), .int 0, .int 0, .int 0, .null, .int 0, .int 0, .int 0, .int 0, .null, .null, .null, .null, .null, .null, .null]))).set k (h0, Sum.inr (6, [.int 0, .int 0, .ref q1, .ref q2, .ref q3, .ref q4, .ref q5, .int 0, .ref q6, .ref q7, .ref q8, .ref q9, .int 0, .int (Int32.ofInt (-1)), .int (Int32.ofInt (-1)), .int (Int32.ofInt (-1)), .int 0, .int 0, .null, .int 0, .int 0, .int 0, .int 0, .null, .null, .null, .null, .null, .null, .null]))).set k (h0, Sum.inr (6, [.int 0, .int 0, .ref q1, .ref q2, .ref q3, .ref q4, .ref q5, .int 0, .ref q6, .ref q7, .ref q8, .ref q9, .int 0, .int (Int32.ofInt (-1)), .int (Int32.ofInt (-1)), .int (Int32.ofInt (-1)), .int (Int32.ofInt (-1)), .int 0, .null, .int 0, .int 0, .int 0, .int 0, .null, .null, .null, .null, .null, .null, .null]))) ++ [ct_ar q10 (cA 0) 20]).set k (h0, Sum.inr (6, [.int 0, .int 0, .ref q1, .ref q2, .ref q3, .ref q4, .ref q5, .int 0, .ref q6, .ref q7, .ref q8, .ref q9, .int 0, .int (Int32.ofInt (-1)), .int (Int32.ofInt (-1)), .int (Int32.ofInt (-1)), .int (Int32.ofInt (-1)), .int 0, .ref q10, .int 0, .int 0, .int 0, .int 0, .null, .null, .null, .null, .null, .null, .null]))) ++ [ct_ar q11 (cA 0) 61]).set k (h0, Sum.inr (6, [.int 0, .int 0, .ref q1, .ref q2, .ref q3, .ref q4, .ref q5, .int 0, .ref q6, .ref q7, .ref q8, .ref q9, .int 0, .int (Int32.ofInt (-1)), .int (Int32.ofInt (-1)), .int (Int32.ofInt (-1)), .int (Int32.ofInt (-1)), .int 0, .ref q10, .int 0, .int 0, .int 0, .int 0, .ref q11, .null, .null, .null, .null, .null, .null]))) ++ [ct_ar q12 (cA 0) 61]).set k (h0, Sum.inr (6, [.int 0, .int 0, .ref q1, .ref q2, .ref q3, .ref q4, .ref q5, .int 0, .ref q6, .ref q7, .ref q8, .ref q9, .int 0, .int (Int32.ofInt (-1)), .int (Int32.ofInt (-1)), .int (Int32.ofInt (-1)), .int (Int32.ofInt (-1)), .int 0, .ref q10, .int 0, .int 0, .int 0, .int 0, .ref q11, .ref q12, .null, .null, .null, .null, .null]))) ++ [ct_ar q13 (cA 0) 60]).set k (h0, Sum.inr (6, [.int 0, .int 0, .ref q1, .ref q2, .ref q3, .ref q4, .ref q5, .int 0, .ref q6, .ref q7, .ref q8, .ref q9, .int 0, .int (Int32.ofInt (-1)), .int (Int32.ofInt (-1)), .int (Int32.ofInt (-1)), .int (Int32.ofInt (-1)), .int 0, .ref q10, .int 0, .int 0, .int 0, .int 0, .ref q11, .ref q12, .ref q13, .null, .null, .null, .null]))) H := hP
  have hD : va_D (fun q => s0.heap.size ≤ q) ((((((((((((((((((((((((((((((ws ++ [ct_ar q1 (cA 0) 8]).set k (h0, Sum.inr (6, [.int 0, .int 0, .ref q1, .null, .null, .null, .null, .int 0, .null, .null, .null, .null, .int 0, .int 0, .int 0, .int 0, .int 0, .int 0, .null, .int 0, .int 0, .int 0, .int 0, .null, .null, .null, .null, .null, .null, .null]))) ++ [ct_ar q2 (cA 0) 8]).set k (h0, Sum.inr (6, [.int 0, .int 0, .ref q1, .ref q2, .null, .null, .null, .int 0, .null, .null, .null, .null, .int 0, .int 0, .int 0, .int 0, .int 0, .int 0, .null, .int 0, .int 0, .int 0, .int 0, .null, .null, .null, .null, .null, .null, .null]))) ++ [ct_ar q3 (cA 0) 32]).set k (h0, Sum.inr (6, [.int 0, .int 0, .ref q1, .ref q2, .ref q3, .null, .null, .int 0, .null, .null, .null, .null, .int 0, .int 0, .int 0, .int 0, .int 0, .int 0, .null, .int 0, .int 0, .int 0, .int 0, .null, .null, .null, .null, .null, .null, .null]))) ++ [ct_ar q4 (cA 1) 4]).set k (h0, Sum.inr (6, [.int 0, .int 0, .ref q1, .ref q2, .ref q3, .ref q4, .null, .int 0, .null, .null, .null, .null, .int 0, .int 0, .int 0, .int 0, .int 0, .int 0, .null, .int 0, .int 0, .int 0, .int 0, .null, .null, .null, .null, .null, .null, .null]))) ++ [ct_ar q5 (cA 1) 81]).set k (h0, Sum.inr (6, [.int 0, .int 0, .ref q1, .ref q2, .ref q3, .ref q4, .ref q5, .int 0, .null, .null, .null, .null, .int 0, .int 0, .int 0, .int 0, .int 0, .int 0, .null, .int 0, .int 0, .int 0, .int 0, .null, .null, .null, .null, .null, .null, .null]))) ++ [ct_ar q6 (cA 1) 13500]).set k (h0, Sum.inr (6, [.int 0, .int 0, .ref q1, .ref q2, .ref q3, .ref q4, .ref q5, .int 0, .ref q6, .null, .null, .null, .int 0, .int 0, .int 0, .int 0, .int 0, .int 0, .null, .int 0, .int 0, .int 0, .int 0, .null, .null, .null, .null, .null, .null, .null]))) ++ [ct_ar q7 (cA 0) 500]).set k (h0, Sum.inr (6, [.int 0, .int 0, .ref q1, .ref q2, .ref q3, .ref q4, .ref q5, .int 0, .ref q6, .ref q7, .null, .null, .int 0, .int 0, .int 0, .int 0, .int 0, .int 0, .null, .int 0, .int 0, .int 0, .int 0, .null, .null, .null, .null, .null, .null, .null]))) ++ [ct_ar q8 (cA 1) 270]).set k (h0, Sum.inr (6, [.int 0, .int 0, .ref q1, .ref q2, .ref q3, .ref q4, .ref q5, .int 0, .ref q6, .ref q7, .ref q8, .null, .int 0, .int 0, .int 0, .int 0, .int 0, .int 0, .null, .int 0, .int 0, .int 0, .int 0, .null, .null, .null, .null, .null, .null, .null]))) ++ [ct_ar q9 (cA 0) 270]).set k (h0, Sum.inr (6, [.int 0, .int 0, .ref q1, .ref q2, .ref q3, .ref q4, .ref q5, .int 0, .ref q6, .ref q7, .ref q8, .ref q9, .int 0, .int 0, .int 0, .int 0, .int 0, .int 0, .null, .int 0, .int 0, .int 0, .int 0, .null, .null, .null, .null, .null, .null, .null]))).set k (h0, Sum.inr (6, [.int 0, .int 0, .ref q1, .ref q2, .ref q3, .ref q4, .ref q5, .int 0, .ref q6, .ref q7, .ref q8, .ref q9, .int 0, .int (Int32.ofInt (-1)), .int 0, .int 0, .int 0, .int 0, .null, .int 0, .int 0, .int 0, .int 0, .null, .null, .null, .null, .null, .null, .null]))).set k (h0, Sum.inr (6, [.int 0, .int 0, .ref q1, .ref q2, .ref q3, .ref q4, .ref q5, .int 0, .ref q6, .ref q7, .ref q8, .ref q9, .int 0, .int (Int32.ofInt (-1)), .int (Int32.ofInt (-1)), .int 0, .int 0, .int 0, .null, .int 0, .int 0, .int 0, .int 0, .null, .null, .null, .null, .null, .null, .null]))).set k (h0, Sum.inr (6, [.int 0, .int 0, .ref q1, .ref q2, .ref q3, .ref q4, .ref q5, .int 0, .ref q6, .ref q7, .ref q8, .ref q9, .int 0, .int (Int32.ofInt (-1)), .int (Int32.ofInt (-1)), .int (Int32.ofInt (-1)), .int 0, .int 0, .null, .int 0, .int 0, .int 0, .int 0, .null, .null, .null, .null, .null, .null, .null]))).set k (h0, Sum.inr (6, [.int 0, .int 0, .ref q1, .ref q2, .ref q3, .ref q4, .ref q5, .int 0, .ref q6, .ref q7, .ref q8, .ref q9, .int 0, .int (Int32.ofInt (-1)), .int (Int32.ofInt (-1)), .int (Int32.ofInt (-1)), .int (Int32.ofInt (-1)), .int 0, .null, .int 0, .int 0, .int 0, .int 0, .null, .null, .null, .null, .null, .null, .null]))) ++ [ct_ar q10 (cA 0) 20]).set k (h0, Sum.inr (6, [.int 0, .int 0, .ref q1, .ref q2, .ref q3, .ref q4, .ref q5, .int 0, .ref q6, .ref q7, .ref q8, .ref q9, .int 0, .int (Int32.ofInt (-1)), .int (Int32.ofInt (-1)), .int (Int32.ofInt (-1)), .int (Int32.ofInt (-1)), .int 0, .ref q10, .int 0, .int 0, .int 0, .int 0, .null, .null, .null, .null, .null, .null, .null]))) ++ [ct_ar q11 (cA 0) 61]).set k (h0, Sum.inr (6, [.int 0, .int 0, .ref q1, .ref q2, .ref q3, .ref q4, .ref q5, .int 0, .ref q6, .ref q7, .ref q8, .ref q9, .int 0, .int (Int32.ofInt (-1)), .int (Int32.ofInt (-1)), .int (Int32.ofInt (-1)), .int (Int32.ofInt (-1)), .int 0, .ref q10, .int 0, .int 0, .int 0, .int 0, .ref q11, .null, .null, .null, .null, .null, .null]))) ++ [ct_ar q12 (cA 0) 61]).set k (h0, Sum.inr (6, [.int 0, .int 0, .ref q1, .ref q2, .ref q3, .ref q4, .ref q5, .int 0, .ref q6, .ref q7, .ref q8, .ref q9, .int 0, .int (Int32.ofInt (-1)), .int (Int32.ofInt (-1)), .int (Int32.ofInt (-1)), .int (Int32.ofInt (-1)), .int 0, .ref q10, .int 0, .int 0, .int 0, .int 0, .ref q11, .ref q12, .null, .null, .null, .null, .null]))) ++ [ct_ar q13 (cA 0) 60]).set k (h0, Sum.inr (6, [.int 0, .int 0, .ref q1, .ref q2, .ref q3, .ref q4, .ref q5, .int 0, .ref q6, .ref q7, .ref q8, .ref q9, .int 0, .int (Int32.ofInt (-1)), .int (Int32.ofInt (-1)), .int (Int32.ofInt (-1)), .int (Int32.ofInt (-1)), .int 0, .ref q10, .int 0, .int 0, .int 0, .int 0, .ref q11, .ref q12, .ref q13, .null, .null, .null, .null]))) := hD
  refine ct_arr (ws := ((((((((((((((((((((((((((((((ws ++ [ct_ar q1 (cA 0) 8]).set k (h0, Sum.inr (6, [.int 0, .int 0, .ref q1, .null, .null, .null, .null, .int 0, .null, .null, .null, .null, .int 0, .int 0, .int 0, .int 0, .int 0, .int 0, .null, .int 0, .int 0, .int 0, .int 0, .null, .null, .null, .null, .null, .null, .null]))) ++ [ct_ar q2 (cA 0) 8]).set k (h0, Sum.inr (6, [.int 0, .int 0, .ref q1, .ref q2, .null, .null, .null, .int 0, .null, .null, .null, .null, .int 0, .int 0, .int 0, .int 0, .int 0, .int 0, .null, .int 0, .int 0, .int 0, .int 0, .null, .null, .null, .null, .null, .null, .null]))) ++ [ct_ar q3 (cA 0) 32]).set k (h0, Sum.inr (6, [.int 0, .int 0, .ref q1, .ref q2, .ref q3, .null, .null, .int 0, .null, .null, .null, .null, .int 0, .int 0, .int 0, .int 0, .int 0, .int 0, .null, .int 0, .int 0, .int 0, .int 0, .null, .null, .null, .null, .null, .null, .null]))) ++ [ct_ar q4 (cA 1) 4]).set k (h0, Sum.inr (6, [.int 0, .int 0, .ref q1, .ref q2, .ref q3, .ref q4, .null, .int 0, .null, .null, .null, .null, .int 0, .int 0, .int 0, .int 0, .int 0, .int 0, .null, .int 0, .int 0, .int 0, .int 0, .null, .null, .null, .null, .null, .null, .null]))) ++ [ct_ar q5 (cA 1) 81]).set k (h0, Sum.inr (6, [.int 0, .int 0, .ref q1, .ref q2, .ref q3, .ref q4, .ref q5, .int 0, .null, .null, .null, .null, .int 0, .int 0, .int 0, .int 0, .int 0, .int 0, .null, .int 0, .int 0, .int 0, .int 0, .null, .null, .null, .null, .null, .null, .null]))) ++ [ct_ar q6 (cA 1) 13500]).set k (h0, Sum.inr (6, [.int 0, .int 0, .ref q1, .ref q2, .ref q3, .ref q4, .ref q5, .int 0, .ref q6, .null, .null, .null, .int 0, .int 0, .int 0, .int 0, .int 0, .int 0, .null, .int 0, .int 0, .int 0, .int 0, .null, .null, .null, .null, .null, .null, .null]))) ++ [ct_ar q7 (cA 0) 500]).set k (h0, Sum.inr (6, [.int 0, .int 0, .ref q1, .ref q2, .ref q3, .ref q4, .ref q5, .int 0, .ref q6, .ref q7, .null, .null, .int 0, .int 0, .int 0, .int 0, .int 0, .int 0, .null, .int 0, .int 0, .int 0, .int 0, .null, .null, .null, .null, .null, .null, .null]))) ++ [ct_ar q8 (cA 1) 270]).set k (h0, Sum.inr (6, [.int 0, .int 0, .ref q1, .ref q2, .ref q3, .ref q4, .ref q5, .int 0, .ref q6, .ref q7, .ref q8, .null, .int 0, .int 0, .int 0, .int 0, .int 0, .int 0, .null, .int 0, .int 0, .int 0, .int 0, .null, .null, .null, .null, .null, .null, .null]))) ++ [ct_ar q9 (cA 0) 270]).set k (h0, Sum.inr (6, [.int 0, .int 0, .ref q1, .ref q2, .ref q3, .ref q4, .ref q5, .int 0, .ref q6, .ref q7, .ref q8, .ref q9, .int 0, .int 0, .int 0, .int 0, .int 0, .int 0, .null, .int 0, .int 0, .int 0, .int 0, .null, .null, .null, .null, .null, .null, .null]))).set k (h0, Sum.inr (6, [.int 0, .int 0, .ref q1, .ref q2, .ref q3, .ref q4, .ref q5, .int 0, .ref q6, .ref q7, .ref q8, .ref q9, .int 0, .int (Int32.ofInt (-1)), .int 0, .int 0, .int 0, .int 0, .null, .int 0, .int 0, .int 0, .int 0, .null, .null, .null, .null, .null, .null, .null]))).set k (h0, Sum.inr (6, [.int 0, .int 0, .ref q1, .ref q2, .ref q3, .ref q4, .ref q5, .int 0, .ref q6, .ref q7, .ref q8, .ref q9, .int 0, .int (Int32.ofInt (-1)), .int (Int32.ofInt (-1)), .int 0, .int 0, .int 0, .null, .int 0, .int 0, .int 0, .int 0, .null, .null, .null, .null, .null, .null, .null]))).set k (h0, Sum.inr (6, [.int 0, .int 0, .ref q1, .ref q2, .ref q3, .ref q4, .ref q5, .int 0, .ref q6, .ref q7, .ref q8, .ref q9, .int 0, .int (Int32.ofInt (-1)), .int (Int32.ofInt (-1)), .int (Int32.ofInt (-1)), .int 0, .int 0, .null, .int 0, .int 0, .int 0, .int 0, .null, .null, .null, .null, .null, .null, .null]))).set k (h0, Sum.inr (6, [.int 0, .int 0, .ref q1, .ref q2, .ref q3, .ref q4, .ref q5, .int 0, .ref q6, .ref q7, .ref q8, .ref q9, .int 0, .int (Int32.ofInt (-1)), .int (Int32.ofInt (-1)), .int (Int32.ofInt (-1)), .int (Int32.ofInt (-1)), .int 0, .null, .int 0, .int 0, .int 0, .int 0, .null, .null, .null, .null, .null, .null, .null]))) ++ [ct_ar q10 (cA 0) 20]).set k (h0, Sum.inr (6, [.int 0, .int 0, .ref q1, .ref q2, .ref q3, .ref q4, .ref q5, .int 0, .ref q6, .ref q7, .ref q8, .ref q9, .int 0, .int (Int32.ofInt (-1)), .int (Int32.ofInt (-1)), .int (Int32.ofInt (-1)), .int (Int32.ofInt (-1)), .int 0, .ref q10, .int 0, .int 0, .int 0, .int 0, .null, .null, .null, .null, .null, .null, .null]))) ++ [ct_ar q11 (cA 0) 61]).set k (h0, Sum.inr (6, [.int 0, .int 0, .ref q1, .ref q2, .ref q3, .ref q4, .ref q5, .int 0, .ref q6, .ref q7, .ref q8, .ref q9, .int 0, .int (Int32.ofInt (-1)), .int (Int32.ofInt (-1)), .int (Int32.ofInt (-1)), .int (Int32.ofInt (-1)), .int 0, .ref q10, .int 0, .int 0, .int 0, .int 0, .ref q11, .null, .null, .null, .null, .null, .null]))) ++ [ct_ar q12 (cA 0) 61]).set k (h0, Sum.inr (6, [.int 0, .int 0, .ref q1, .ref q2, .ref q3, .ref q4, .ref q5, .int 0, .ref q6, .ref q7, .ref q8, .ref q9, .int 0, .int (Int32.ofInt (-1)), .int (Int32.ofInt (-1)), .int (Int32.ofInt (-1)), .int (Int32.ofInt (-1)), .int 0, .ref q10, .int 0, .int 0, .int 0, .int 0, .ref q11, .ref q12, .null, .null, .null, .null, .null]))) ++ [ct_ar q13 (cA 0) 60]).set k (h0, Sum.inr (6, [.int 0, .int 0, .ref q1, .ref q2, .ref q3, .ref q4, .ref q5, .int 0, .ref q6, .ref q7, .ref q8, .ref q9, .int 0, .int (Int32.ofInt (-1)), .int (Int32.ofInt (-1)), .int (Int32.ofInt (-1)), .int (Int32.ofInt (-1)), .int 0, .ref q10, .int 0, .int 0, .int 0, .int 0, .ref q11, .ref q12, .ref q13, .null, .null, .null, .null])))) (k := k) (h0 := h0) (f := 26) (fs := [.int 0, .int 0, .ref q1, .ref q2, .ref q3, .ref q4, .ref q5, .int 0, .ref q6, .ref q7, .ref q8, .ref q9, .int 0, .int (Int32.ofInt (-1)), .int (Int32.ofInt (-1)), .int (Int32.ofInt (-1)), .int (Int32.ofInt (-1)), .int 0, .ref q10, .int 0, .int 0, .int 0, .int 0, .ref q11, .ref q12, .ref q13, .null, .null, .null, .null]) (tk := 0) (idx := 63) (N' := 60) hE hx hb (by decide) hown hin hW0 hsz hg hP hD hS (lv_at hl 0 rfl) cn_6_d131 (fun z => lv_bipush hx hb cn_6_d132 (v := 60) rfl z) cn_6_d134 cn_6_d136 rfl rfl rfl aw_0 (by decide) rfl (by decide) (Nat.le_of_ble_eq_true rfl) (Nat.le_of_ble_eq_true rfl) (Nat.le_of_ble_eq_true rfl) (Nat.le_of_ble_eq_true rfl) rfl cn_6_l63 (fun _ => rfl) (fun _ => rfl) (fun q14 H locs hP hD hS => ?_)
  have hg := ct_g1 (y := ct_ar q14 (cA 0) 60) (z := (h0, Sum.inr (6, [.int 0, .int 0, .ref q1, .ref q2, .ref q3, .ref q4, .ref q5, .int 0, .ref q6, .ref q7, .ref q8, .ref q9, .int 0, .int (Int32.ofInt (-1)), .int (Int32.ofInt (-1)), .int (Int32.ofInt (-1)), .int (Int32.ofInt (-1)), .int 0, .ref q10, .int 0, .int 0, .int 0, .int 0, .ref q11, .ref q12, .ref q13, .ref q14, .null, .null, .null]))) hg
  have hP : va_P (dC, dI) ab_cls ((((((((((((((((((((((((((((((((ws ++ [ct_ar q1 (cA 0) 8]).set k (h0, Sum.inr (6, [.int 0, .int 0, .ref q1, .null, .null, .null, .null, .int 0, .null, .null, .null, .null, .int 0, .int 0, .int 0, .int 0, .int 0, .int 0, .null, .int 0, .int 0, .int 0, .int 0, .null, .null, .null, .null, .null, .null, .null]))) ++ [ct_ar q2 (cA 0) 8]).set k (h0, Sum.inr (6, [.int 0, .int 0, .ref q1, .ref q2, .null, .null, .null, .int 0, .null, .null, .null, .null, .int 0, .int 0, .int 0, .int 0, .int 0, .int 0, .null, .int 0, .int 0, .int 0, .int 0, .null, .null, .null, .null, .null, .null, .null]))) ++ [ct_ar q3 (cA 0) 32]).set k (h0, Sum.inr (6, [.int 0, .int 0, .ref q1, .ref q2, .ref q3, .null, .null, .int 0, .null, .null, .null, .null, .int 0, .int 0, .int 0, .int 0, .int 0, .int 0, .null, .int 0, .int 0, .int 0, .int 0, .null, .null, .null, .null, .null, .null, .null]))) ++ [ct_ar q4 (cA 1) 4]).set k (h0, Sum.inr (6, [.int 0, .int 0, .ref q1, .ref q2, .ref q3, .ref q4, .null, .int 0, .null, .null, .null, .null, .int 0, .int 0, .int 0, .int 0, .int 0, .int 0, .null, .int 0, .int 0, .int 0, .int 0, .null, .null, .null, .null, .null, .null, .null]))) ++ [ct_ar q5 (cA 1) 81]).set k (h0, Sum.inr (6, [.int 0, .int 0, .ref q1, .ref q2, .ref q3, .ref q4, .ref q5, .int 0, .null, .null, .null, .null, .int 0, .int 0, .int 0, .int 0, .int 0, .int 0, .null, .int 0, .int 0, .int 0, .int 0, .null, .null, .null, .null, .null, .null, .null]))) ++ [ct_ar q6 (cA 1) 13500]).set k (h0, Sum.inr (6, [.int 0, .int 0, .ref q1, .ref q2, .ref q3, .ref q4, .ref q5, .int 0, .ref q6, .null, .null, .null, .int 0, .int 0, .int 0, .int 0, .int 0, .int 0, .null, .int 0, .int 0, .int 0, .int 0, .null, .null, .null, .null, .null, .null, .null]))) ++ [ct_ar q7 (cA 0) 500]).set k (h0, Sum.inr (6, [.int 0, .int 0, .ref q1, .ref q2, .ref q3, .ref q4, .ref q5, .int 0, .ref q6, .ref q7, .null, .null, .int 0, .int 0, .int 0, .int 0, .int 0, .int 0, .null, .int 0, .int 0, .int 0, .int 0, .null, .null, .null, .null, .null, .null, .null]))) ++ [ct_ar q8 (cA 1) 270]).set k (h0, Sum.inr (6, [.int 0, .int 0, .ref q1, .ref q2, .ref q3, .ref q4, .ref q5, .int 0, .ref q6, .ref q7, .ref q8, .null, .int 0, .int 0, .int 0, .int 0, .int 0, .int 0, .null, .int 0, .int 0, .int 0, .int 0, .null, .null, .null, .null, .null, .null, .null]))) ++ [ct_ar q9 (cA 0) 270]).set k (h0, Sum.inr (6, [.int 0, .int 0, .ref q1, .ref q2, .ref q3, .ref q4, .ref q5, .int 0, .ref q6, .ref q7, .ref q8, .ref q9, .int 0, .int 0, .int 0, .int 0, .int 0, .int 0, .null, .int 0, .int 0, .int 0, .int 0, .null, .null, .null, .null, .null, .null, .null]))).set k (h0, Sum.inr (6, [.int 0, .int 0, .ref q1, .ref q2, .ref q3, .ref q4, .ref q5, .int 0, .ref q6, .ref q7, .ref q8, .ref q9, .int 0, .int (Int32.ofInt (-1)), .int 0, .int 0, .int 0, .int 0, .null, .int 0, .int 0, .int 0, .int 0, .null, .null, .null, .null, .null, .null, .null]))).set k (h0, Sum.inr (6, [.int 0, .int 0, .ref q1, .ref q2, .ref q3, .ref q4, .ref q5, .int 0, .ref q6, .ref q7, .ref q8, .ref q9, .int 0, .int (Int32.ofInt (-1)), .int (Int32.ofInt (-1)), .int 0, .int 0, .int 0, .null, .int 0, .int 0, .int 0, .int 0, .null, .null, .null, .null, .null, .null, .null]))).set k (h0, Sum.inr (6, [.int 0, .int 0, .ref q1, .ref q2, .ref q3, .ref q4, .ref q5, .int 0, .ref q6, .ref q7, .ref q8, .ref q9, .int 0, .int (Int32.ofInt (-1)), .int (Int32.ofInt (-1)), .int (Int32.ofInt (-1)), .int 0, .int 0, .null, .int 0, .int 0, .int 0, .int 0, .null, .null, .null, .null, .null, .null, .null]))).set k (h0, Sum.inr (6, [.int 0, .int 0, .ref q1, .ref q2, .ref q3, .ref q4, .ref q5, .int 0, .ref q6, .ref q7, .ref q8, .ref q9, .int 0, .int (Int32.ofInt (-1)), .int (Int32.ofInt (-1)), .int (Int32.ofInt (-1)), .int (Int32.ofInt (-1)), .int 0, .null, .int 0, .int 0, .int 0, .int 0, .null, .null, .null, .null, .null, .null, .null]))) ++ [ct_ar q10 (cA 0) 20]).set k (h0, Sum.inr (6, [.int 0, .int 0, .ref q1, .ref q2, .ref q3, .ref q4, .ref q5, .int 0, .ref q6, .ref q7, .ref q8, .ref q9, .int 0, .int (Int32.ofInt (-1)), .int (Int32.ofInt (-1)), .int (Int32.ofInt (-1)), .int (Int32.ofInt (-1)), .int 0, .ref q10, .int 0, .int 0, .int 0, .int 0, .null, .null, .null, .null, .null, .null, .null]))) ++ [ct_ar q11 (cA 0) 61]).set k (h0, Sum.inr (6, [.int 0, .int 0, .ref q1, .ref q2, .ref q3, .ref q4, .ref q5, .int 0, .ref q6, .ref q7, .ref q8, .ref q9, .int 0, .int (Int32.ofInt (-1)), .int (Int32.ofInt (-1)), .int (Int32.ofInt (-1)), .int (Int32.ofInt (-1)), .int 0, .ref q10, .int 0, .int 0, .int 0, .int 0, .ref q11, .null, .null, .null, .null, .null, .null]))) ++ [ct_ar q12 (cA 0) 61]).set k (h0, Sum.inr (6, [.int 0, .int 0, .ref q1, .ref q2, .ref q3, .ref q4, .ref q5, .int 0, .ref q6, .ref q7, .ref q8, .ref q9, .int 0, .int (Int32.ofInt (-1)), .int (Int32.ofInt (-1)), .int (Int32.ofInt (-1)), .int (Int32.ofInt (-1)), .int 0, .ref q10, .int 0, .int 0, .int 0, .int 0, .ref q11, .ref q12, .null, .null, .null, .null, .null]))) ++ [ct_ar q13 (cA 0) 60]).set k (h0, Sum.inr (6, [.int 0, .int 0, .ref q1, .ref q2, .ref q3, .ref q4, .ref q5, .int 0, .ref q6, .ref q7, .ref q8, .ref q9, .int 0, .int (Int32.ofInt (-1)), .int (Int32.ofInt (-1)), .int (Int32.ofInt (-1)), .int (Int32.ofInt (-1)), .int 0, .ref q10, .int 0, .int 0, .int 0, .int 0, .ref q11, .ref q12, .ref q13, .null, .null, .null, .null]))) ++ [ct_ar q14 (cA 0) 60]).set k (h0, Sum.inr (6, [.int 0, .int 0, .ref q1, .ref q2, .ref q3, .ref q4, .ref q5, .int 0, .ref q6, .ref q7, .ref q8, .ref q9, .int 0, .int (Int32.ofInt (-1)), .int (Int32.ofInt (-1)), .int (Int32.ofInt (-1)), .int (Int32.ofInt (-1)), .int 0, .ref q10, .int 0, .int 0, .int 0, .int 0, .ref q11, .ref q12, .ref q13, .ref q14, .null, .null, .null]))) H := hP
  have hD : va_D (fun q => s0.heap.size ≤ q) ((((((((((((((((((((((((((((((((ws ++ [ct_ar q1 (cA 0) 8]).set k (h0, Sum.inr (6, [.int 0, .int 0, .ref q1, .null, .null, .null, .null, .int 0, .null, .null, .null, .null, .int 0, .int 0, .int 0, .int 0, .int 0, .int 0, .null, .int 0, .int 0, .int 0, .int 0, .null, .null, .null, .null, .null, .null, .null]))) ++ [ct_ar q2 (cA 0) 8]).set k (h0, Sum.inr (6, [.int 0, .int 0, .ref q1, .ref q2, .null, .null, .null, .int 0, .null, .null, .null, .null, .int 0, .int 0, .int 0, .int 0, .int 0, .int 0, .null, .int 0, .int 0, .int 0, .int 0, .null, .null, .null, .null, .null, .null, .null]))) ++ [ct_ar q3 (cA 0) 32]).set k (h0, Sum.inr (6, [.int 0, .int 0, .ref q1, .ref q2, .ref q3, .null, .null, .int 0, .null, .null, .null, .null, .int 0, .int 0, .int 0, .int 0, .int 0, .int 0, .null, .int 0, .int 0, .int 0, .int 0, .null, .null, .null, .null, .null, .null, .null]))) ++ [ct_ar q4 (cA 1) 4]).set k (h0, Sum.inr (6, [.int 0, .int 0, .ref q1, .ref q2, .ref q3, .ref q4, .null, .int 0, .null, .null, .null, .null, .int 0, .int 0, .int 0, .int 0, .int 0, .int 0, .null, .int 0, .int 0, .int 0, .int 0, .null, .null, .null, .null, .null, .null, .null]))) ++ [ct_ar q5 (cA 1) 81]).set k (h0, Sum.inr (6, [.int 0, .int 0, .ref q1, .ref q2, .ref q3, .ref q4, .ref q5, .int 0, .null, .null, .null, .null, .int 0, .int 0, .int 0, .int 0, .int 0, .int 0, .null, .int 0, .int 0, .int 0, .int 0, .null, .null, .null, .null, .null, .null, .null]))) ++ [ct_ar q6 (cA 1) 13500]).set k (h0, Sum.inr (6, [.int 0, .int 0, .ref q1, .ref q2, .ref q3, .ref q4, .ref q5, .int 0, .ref q6, .null, .null, .null, .int 0, .int 0, .int 0, .int 0, .int 0, .int 0, .null, .int 0, .int 0, .int 0, .int 0, .null, .null, .null, .null, .null, .null, .null]))) ++ [ct_ar q7 (cA 0) 500]).set k (h0, Sum.inr (6, [.int 0, .int 0, .ref q1, .ref q2, .ref q3, .ref q4, .ref q5, .int 0, .ref q6, .ref q7, .null, .null, .int 0, .int 0, .int 0, .int 0, .int 0, .int 0, .null, .int 0, .int 0, .int 0, .int 0, .null, .null, .null, .null, .null, .null, .null]))) ++ [ct_ar q8 (cA 1) 270]).set k (h0, Sum.inr (6, [.int 0, .int 0, .ref q1, .ref q2, .ref q3, .ref q4, .ref q5, .int 0, .ref q6, .ref q7, .ref q8, .null, .int 0, .int 0, .int 0, .int 0, .int 0, .int 0, .null, .int 0, .int 0, .int 0, .int 0, .null, .null, .null, .null, .null, .null, .null]))) ++ [ct_ar q9 (cA 0) 270]).set k (h0, Sum.inr (6, [.int 0, .int 0, .ref q1, .ref q2, .ref q3, .ref q4, .ref q5, .int 0, .ref q6, .ref q7, .ref q8, .ref q9, .int 0, .int 0, .int 0, .int 0, .int 0, .int 0, .null, .int 0, .int 0, .int 0, .int 0, .null, .null, .null, .null, .null, .null, .null]))).set k (h0, Sum.inr (6, [.int 0, .int 0, .ref q1, .ref q2, .ref q3, .ref q4, .ref q5, .int 0, .ref q6, .ref q7, .ref q8, .ref q9, .int 0, .int (Int32.ofInt (-1)), .int 0, .int 0, .int 0, .int 0, .null, .int 0, .int 0, .int 0, .int 0, .null, .null, .null, .null, .null, .null, .null]))).set k (h0, Sum.inr (6, [.int 0, .int 0, .ref q1, .ref q2, .ref q3, .ref q4, .ref q5, .int 0, .ref q6, .ref q7, .ref q8, .ref q9, .int 0, .int (Int32.ofInt (-1)), .int (Int32.ofInt (-1)), .int 0, .int 0, .int 0, .null, .int 0, .int 0, .int 0, .int 0, .null, .null, .null, .null, .null, .null, .null]))).set k (h0, Sum.inr (6, [.int 0, .int 0, .ref q1, .ref q2, .ref q3, .ref q4, .ref q5, .int 0, .ref q6, .ref q7, .ref q8, .ref q9, .int 0, .int (Int32.ofInt (-1)), .int (Int32.ofInt (-1)), .int (Int32.ofInt (-1)), .int 0, .int 0, .null, .int 0, .int 0, .int 0, .int 0, .null, .null, .null, .null, .null, .null, .null]))).set k (h0, Sum.inr (6, [.int 0, .int 0, .ref q1, .ref q2, .ref q3, .ref q4, .ref q5, .int 0, .ref q6, .ref q7, .ref q8, .ref q9, .int 0, .int (Int32.ofInt (-1)), .int (Int32.ofInt (-1)), .int (Int32.ofInt (-1)), .int (Int32.ofInt (-1)), .int 0, .null, .int 0, .int 0, .int 0, .int 0, .null, .null, .null, .null, .null, .null, .null]))) ++ [ct_ar q10 (cA 0) 20]).set k (h0, Sum.inr (6, [.int 0, .int 0, .ref q1, .ref q2, .ref q3, .ref q4, .ref q5, .int 0, .ref q6, .ref q7, .ref q8, .ref q9, .int 0, .int (Int32.ofInt (-1)), .int (Int32.ofInt (-1)), .int (Int32.ofInt (-1)), .int (Int32.ofInt (-1)), .int 0, .ref q10, .int 0, .int 0, .int 0, .int 0, .null, .null, .null, .null, .null, .null, .null]))) ++ [ct_ar q11 (cA 0) 61]).set k (h0, Sum.inr (6, [.int 0, .int 0, .ref q1, .ref q2, .ref q3, .ref q4, .ref q5, .int 0, .ref q6, .ref q7, .ref q8, .ref q9, .int 0, .int (Int32.ofInt (-1)), .int (Int32.ofInt (-1)), .int (Int32.ofInt (-1)), .int (Int32.ofInt (-1)), .int 0, .ref q10, .int 0, .int 0, .int 0, .int 0, .ref q11, .null, .null, .null, .null, .null, .null]))) ++ [ct_ar q12 (cA 0) 61]).set k (h0, Sum.inr (6, [.int 0, .int 0, .ref q1, .ref q2, .ref q3, .ref q4, .ref q5, .int 0, .ref q6, .ref q7, .ref q8, .ref q9, .int 0, .int (Int32.ofInt (-1)), .int (Int32.ofInt (-1)), .int (Int32.ofInt (-1)), .int (Int32.ofInt (-1)), .int 0, .ref q10, .int 0, .int 0, .int 0, .int 0, .ref q11, .ref q12, .null, .null, .null, .null, .null]))) ++ [ct_ar q13 (cA 0) 60]).set k (h0, Sum.inr (6, [.int 0, .int 0, .ref q1, .ref q2, .ref q3, .ref q4, .ref q5, .int 0, .ref q6, .ref q7, .ref q8, .ref q9, .int 0, .int (Int32.ofInt (-1)), .int (Int32.ofInt (-1)), .int (Int32.ofInt (-1)), .int (Int32.ofInt (-1)), .int 0, .ref q10, .int 0, .int 0, .int 0, .int 0, .ref q11, .ref q12, .ref q13, .null, .null, .null, .null]))) ++ [ct_ar q14 (cA 0) 60]).set k (h0, Sum.inr (6, [.int 0, .int 0, .ref q1, .ref q2, .ref q3, .ref q4, .ref q5, .int 0, .ref q6, .ref q7, .ref q8, .ref q9, .int 0, .int (Int32.ofInt (-1)), .int (Int32.ofInt (-1)), .int (Int32.ofInt (-1)), .int (Int32.ofInt (-1)), .int 0, .ref q10, .int 0, .int 0, .int 0, .int 0, .ref q11, .ref q12, .ref q13, .ref q14, .null, .null, .null]))) := hD
  refine ct_arr (ws := ((((((((((((((((((((((((((((((((ws ++ [ct_ar q1 (cA 0) 8]).set k (h0, Sum.inr (6, [.int 0, .int 0, .ref q1, .null, .null, .null, .null, .int 0, .null, .null, .null, .null, .int 0, .int 0, .int 0, .int 0, .int 0, .int 0, .null, .int 0, .int 0, .int 0, .int 0, .null, .null, .null, .null, .null, .null, .null]))) ++ [ct_ar q2 (cA 0) 8]).set k (h0, Sum.inr (6, [.int 0, .int 0, .ref q1, .ref q2, .null, .null, .null, .int 0, .null, .null, .null, .null, .int 0, .int 0, .int 0, .int 0, .int 0, .int 0, .null, .int 0, .int 0, .int 0, .int 0, .null, .null, .null, .null, .null, .null, .null]))) ++ [ct_ar q3 (cA 0) 32]).set k (h0, Sum.inr (6, [.int 0, .int 0, .ref q1, .ref q2, .ref q3, .null, .null, .int 0, .null, .null, .null, .null, .int 0, .int 0, .int 0, .int 0, .int 0, .int 0, .null, .int 0, .int 0, .int 0, .int 0, .null, .null, .null, .null, .null, .null, .null]))) ++ [ct_ar q4 (cA 1) 4]).set k (h0, Sum.inr (6, [.int 0, .int 0, .ref q1, .ref q2, .ref q3, .ref q4, .null, .int 0, .null, .null, .null, .null, .int 0, .int 0, .int 0, .int 0, .int 0, .int 0, .null, .int 0, .int 0, .int 0, .int 0, .null, .null, .null, .null, .null, .null, .null]))) ++ [ct_ar q5 (cA 1) 81]).set k (h0, Sum.inr (6, [.int 0, .int 0, .ref q1, .ref q2, .ref q3, .ref q4, .ref q5, .int 0, .null, .null, .null, .null, .int 0, .int 0, .int 0, .int 0, .int 0, .int 0, .null, .int 0, .int 0, .int 0, .int 0, .null, .null, .null, .null, .null, .null, .null]))) ++ [ct_ar q6 (cA 1) 13500]).set k (h0, Sum.inr (6, [.int 0, .int 0, .ref q1, .ref q2, .ref q3, .ref q4, .ref q5, .int 0, .ref q6, .null, .null, .null, .int 0, .int 0, .int 0, .int 0, .int 0, .int 0, .null, .int 0, .int 0, .int 0, .int 0, .null, .null, .null, .null, .null, .null, .null]))) ++ [ct_ar q7 (cA 0) 500]).set k (h0, Sum.inr (6, [.int 0, .int 0, .ref q1, .ref q2, .ref q3, .ref q4, .ref q5, .int 0, .ref q6, .ref q7, .null, .null, .int 0, .int 0, .int 0, .int 0, .int 0, .int 0, .null, .int 0, .int 0, .int 0, .int 0, .null, .null, .null, .null, .null, .null, .null]))) ++ [ct_ar q8 (cA 1) 270]).set k (h0, Sum.inr (6, [.int 0, .int 0, .ref q1, .ref q2, .ref q3, .ref q4, .ref q5, .int 0, .ref q6, .ref q7, .ref q8, .null, .int 0, .int 0, .int 0, .int 0, .int 0, .int 0, .null, .int 0, .int 0, .int 0, .int 0, .null, .null, .null, .null, .null, .null, .null]))) ++ [ct_ar q9 (cA 0) 270]).set k (h0, Sum.inr (6, [.int 0, .int 0, .ref q1, .ref q2, .ref q3, .ref q4, .ref q5, .int 0, .ref q6, .ref q7, .ref q8, .ref q9, .int 0, .int 0, .int 0, .int 0, .int 0, .int 0, .null, .int 0, .int 0, .int 0, .int 0, .null, .null, .null, .null, .null, .null, .null]))).set k (h0, Sum.inr (6, [.int 0, .int 0, .ref q1, .ref q2, .ref q3, .ref q4, .ref q5, .int 0, .ref q6, .ref q7, .ref q8, .ref q9, .int 0, .int (Int32.ofInt (-1)), .int 0, .int 0, .int 0, .int 0, .null, .int 0, .int 0, .int 0, .int 0, .null, .null, .null, .null, .null, .null, .null]))).set k (h0, Sum.inr (6, [.int 0, .int 0, .ref q1, .ref q2, .ref q3, .ref q4, .ref q5, .int 0, .ref q6, .ref q7, .ref q8, .ref q9, .int 0, .int (Int32.ofInt (-1)), .int (Int32.ofInt (-1)), .int 0, .int 0, .int 0, .null, .int 0, .int 0, .int 0, .int 0, .null, .null, .null, .null, .null, .null, .null]))).set k (h0, Sum.inr (6, [.int 0, .int 0, .ref q1, .ref q2, .ref q3, .ref q4, .ref q5, .int 0, .ref q6, .ref q7, .ref q8, .ref q9, .int 0, .int (Int32.ofInt (-1)), .int (Int32.ofInt (-1)), .int (Int32.ofInt (-1)), .int 0, .int 0, .null, .int 0, .int 0, .int 0, .int 0, .null, .null, .null, .null, .null, .null, .null]))).set k (h0, Sum.inr (6, [.int 0, .int 0, .ref q1, .ref q2, .ref q3, .ref q4, .ref q5, .int 0, .ref q6, .ref q7, .ref q8, .ref q9, .int 0, .int (Int32.ofInt (-1)), .int (Int32.ofInt (-1)), .int (Int32.ofInt (-1)), .int (Int32.ofInt (-1)), .int 0, .null, .int 0, .int 0, .int 0, .int 0, .null, .null, .null, .null, .null, .null, .null]))) ++ [ct_ar q10 (cA 0) 20]).set k (h0, Sum.inr (6, [.int 0, .int 0, .ref q1, .ref q2, .ref q3, .ref q4, .ref q5, .int 0, .ref q6, .ref q7, .ref q8, .ref q9, .int 0, .int (Int32.ofInt (-1)), .int (Int32.ofInt (-1)), .int (Int32.ofInt (-1)), .int (Int32.ofInt (-1)), .int 0, .ref q10, .int 0, .int 0, .int 0, .int 0, .null, .null, .null, .null, .null, .null, .null]))) ++ [ct_ar q11 (cA 0) 61]).set k (h0, Sum.inr (6, [.int 0, .int 0, .ref q1, .ref q2, .ref q3, .ref q4, .ref q5, .int 0, .ref q6, .ref q7, .ref q8, .ref q9, .int 0, .int (Int32.ofInt (-1)), .int (Int32.ofInt (-1)), .int (Int32.ofInt (-1)), .int (Int32.ofInt (-1)), .int 0, .ref q10, .int 0, .int 0, .int 0, .int 0, .ref q11, .null, .null, .null, .null, .null, .null]))) ++ [ct_ar q12 (cA 0) 61]).set k (h0, Sum.inr (6, [.int 0, .int 0, .ref q1, .ref q2, .ref q3, .ref q4, .ref q5, .int 0, .ref q6, .ref q7, .ref q8, .ref q9, .int 0, .int (Int32.ofInt (-1)), .int (Int32.ofInt (-1)), .int (Int32.ofInt (-1)), .int (Int32.ofInt (-1)), .int 0, .ref q10, .int 0, .int 0, .int 0, .int 0, .ref q11, .ref q12, .null, .null, .null, .null, .null]))) ++ [ct_ar q13 (cA 0) 60]).set k (h0, Sum.inr (6, [.int 0, .int 0, .ref q1, .ref q2, .ref q3, .ref q4, .ref q5, .int 0, .ref q6, .ref q7, .ref q8, .ref q9, .int 0, .int (Int32.ofInt (-1)), .int (Int32.ofInt (-1)), .int (Int32.ofInt (-1)), .int (Int32.ofInt (-1)), .int 0, .ref q10, .int 0, .int 0, .int 0, .int 0, .ref q11, .ref q12, .ref q13, .null, .null, .null, .null]))) ++ [ct_ar q14 (cA 0) 60]).set k (h0, Sum.inr (6, [.int 0, .int 0, .ref q1, .ref q2, .ref q3, .ref q4, .ref q5, .int 0, .ref q6, .ref q7, .ref q8, .ref q9, .int 0, .int (Int32.ofInt (-1)), .int (Int32.ofInt (-1)), .int (Int32.ofInt (-1)), .int (Int32.ofInt (-1)), .int 0, .ref q10, .int 0, .int 0, .int 0, .int 0, .ref q11, .ref q12, .ref q13, .ref q14, .null, .null, .null])))) (k := k) (h0 := h0) (f := 27) (fs := [.int 0, .int 0, .ref q1, .ref q2, .ref q3, .ref q4, .ref q5, .int 0, .ref q6, .ref q7, .ref q8, .ref q9, .int 0, .int (Int32.ofInt (-1)), .int (Int32.ofInt (-1)), .int (Int32.ofInt (-1)), .int (Int32.ofInt (-1)), .int 0, .ref q10, .int 0, .int 0, .int 0, .int 0, .ref q11, .ref q12, .ref q13, .ref q14, .null, .null, .null]) (tk := 0) (idx := 66) (N' := 60) hE hx hb (by decide) hown hin hW0 hsz hg hP hD hS (lv_at hl 0 rfl) cn_6_d139 (fun z => lv_bipush hx hb cn_6_d140 (v := 60) rfl z) cn_6_d142 cn_6_d144 rfl rfl rfl aw_0 (by decide) rfl (by decide) (Nat.le_of_ble_eq_true rfl) (Nat.le_of_ble_eq_true rfl) (Nat.le_of_ble_eq_true rfl) (Nat.le_of_ble_eq_true rfl) rfl cn_6_l66 (fun _ => rfl) (fun _ => rfl) (fun q15 H locs hP hD hS => ?_)
  have hg := ct_g1 (y := ct_ar q15 (cA 0) 60) (z := (h0, Sum.inr (6, [.int 0, .int 0, .ref q1, .ref q2, .ref q3, .ref q4, .ref q5, .int 0, .ref q6, .ref q7, .ref q8, .ref q9, .int 0, .int (Int32.ofInt (-1)), .int (Int32.ofInt (-1)), .int (Int32.ofInt (-1)), .int (Int32.ofInt (-1)), .int 0, .ref q10, .int 0, .int 0, .int 0, .int 0, .ref q11, .ref q12, .ref q13, .ref q14, .ref q15, .null, .null]))) hg
  have hP : va_P (dC, dI) ab_cls ((((((((((((((((((((((((((((((((((ws ++ [ct_ar q1 (cA 0) 8]).set k (h0, Sum.inr (6, [.int 0, .int 0, .ref q1, .null, .null, .null, .null, .int 0, .null, .null, .null, .null, .int 0, .int 0, .int 0, .int 0, .int 0, .int 0, .null, .int 0, .int 0, .int 0, .int 0, .null, .null, .null, .null, .null, .null, .null]))) ++ [ct_ar q2 (cA 0) 8]).set k (h0, Sum.inr (6, [.int 0, .int 0, .ref q1, .ref q2, .null, .null, .null, .int 0, .null, .null, .null, .null, .int 0, .int 0, .int 0, .int 0, .int 0, .int 0, .null, .int 0, .int 0, .int 0, .int 0, .null, .null, .null, .null, .null, .null, .null]))) ++ [ct_ar q3 (cA 0) 32]).set k (h0, Sum.inr (6, [.int 0, .int 0, .ref q1, .ref q2, .ref q3, .null, .null, .int 0, .null, .null, .null, .null, .int 0, .int 0, .int 0, .int 0, .int 0, .int 0, .null, .int 0, .int 0, .int 0, .int 0, .null, .null, .null, .null, .null, .null, .null]))) ++ [ct_ar q4 (cA 1) 4]).set k (h0, Sum.inr (6, [.int 0, .int 0, .ref q1, .ref q2, .ref q3, .ref q4, .null, .int 0, .null, .null, .null, .null, .int 0, .int 0, .int 0, .int 0, .int 0, .int 0, .null, .int 0, .int 0, .int 0, .int 0, .null, .null, .null, .null, .null, .null, .null]))) ++ [ct_ar q5 (cA 1) 81]).set k (h0, Sum.inr (6, [.int 0, .int 0, .ref q1, .ref q2, .ref q3, .ref q4, .ref q5, .int 0, .null, .null, .null, .null, .int 0, .int 0, .int 0, .int 0, .int 0, .int 0, .null, .int 0, .int 0, .int 0, .int 0, .null, .null, .null, .null, .null, .null, .null]))) ++ [ct_ar q6 (cA 1) 13500]).set k (h0, Sum.inr (6, [.int 0, .int 0, .ref q1, .ref q2, .ref q3, .ref q4, .ref q5, .int 0, .ref q6, .null, .null, .null, .int 0, .int 0, .int 0, .int 0, .int 0, .int 0, .null, .int 0, .int 0, .int 0, .int 0, .null, .null, .null, .null, .null, .null, .null]))) ++ [ct_ar q7 (cA 0) 500]).set k (h0, Sum.inr (6, [.int 0, .int 0, .ref q1, .ref q2, .ref q3, .ref q4, .ref q5, .int 0, .ref q6, .ref q7, .null, .null, .int 0, .int 0, .int 0, .int 0, .int 0, .int 0, .null, .int 0, .int 0, .int 0, .int 0, .null, .null, .null, .null, .null, .null, .null]))) ++ [ct_ar q8 (cA 1) 270]).set k (h0, Sum.inr (6, [.int 0, .int 0, .ref q1, .ref q2, .ref q3, .ref q4, .ref q5, .int 0, .ref q6, .ref q7, .ref q8, .null, .int 0, .int 0, .int 0, .int 0, .int 0, .int 0, .null, .int 0, .int 0, .int 0, .int 0, .null, .null, .null, .null, .null, .null, .null]))) ++ [ct_ar q9 (cA 0) 270]).set k (h0, Sum.inr (6, [.int 0, .int 0, .ref q1, .ref q2, .ref q3, .ref q4, .ref q5, .int 0, .ref q6, .ref q7, .ref q8, .ref q9, .int 0, .int 0, .int 0, .int 0, .int 0, .int 0, .null, .int 0, .int 0, .int 0, .int 0, .null, .null, .null, .null, .null, .null, .null]))).set k (h0, Sum.inr (6, [.int 0, .int 0, .ref q1, .ref q2, .ref q3, .ref q4, .ref q5, .int 0, .ref q6, .ref q7, .ref q8, .ref q9, .int 0, .int (Int32.ofInt (-1)), .int 0, .int 0, .int 0, .int 0, .null, .int 0, .int 0, .int 0, .int 0, .null, .null, .null, .null, .null, .null, .null]))).set k (h0, Sum.inr (6, [.int 0, .int 0, .ref q1, .ref q2, .ref q3, .ref q4, .ref q5, .int 0, .ref q6, .ref q7, .ref q8, .ref q9, .int 0, .int (Int32.ofInt (-1)), .int (Int32.ofInt (-1)), .int 0, .int 0, .int 0, .null, .int 0, .int 0, .int 0, .int 0, .null, .null, .null, .null, .null, .null, .null]))).set k (h0, Sum.inr (6, [.int 0, .int 0, .ref q1, .ref q2, .ref q3, .ref q4, .ref q5, .int 0, .ref q6, .ref q7, .ref q8, .ref q9, .int 0, .int (Int32.ofInt (-1)), .int (Int32.ofInt (-1)), .int (Int32.ofInt (-1)), .int 0, .int 0, .null, .int 0, .int 0, .int 0, .int 0, .null, .null, .null, .null, .null, .null, .null]))).set k (h0, Sum.inr (6, [.int 0, .int 0, .ref q1, .ref q2, .ref q3, .ref q4, .ref q5, .int 0, .ref q6, .ref q7, .ref q8, .ref q9, .int 0, .int (Int32.ofInt (-1)), .int (Int32.ofInt (-1)), .int (Int32.ofInt (-1)), .int (Int32.ofInt (-1)), .int 0, .null, .int 0, .int 0, .int 0, .int 0, .null, .null, .null, .null, .null, .null, .null]))) ++ [ct_ar q10 (cA 0) 20]).set k (h0, Sum.inr (6, [.int 0, .int 0, .ref q1, .ref q2, .ref q3, .ref q4, .ref q5, .int 0, .ref q6, .ref q7, .ref q8, .ref q9, .int 0, .int (Int32.ofInt (-1)), .int (Int32.ofInt (-1)), .int (Int32.ofInt (-1)), .int (Int32.ofInt (-1)), .int 0, .ref q10, .int 0, .int 0, .int 0, .int 0, .null, .null, .null, .null, .null, .null, .null]))) ++ [ct_ar q11 (cA 0) 61]).set k (h0, Sum.inr (6, [.int 0, .int 0, .ref q1, .ref q2, .ref q3, .ref q4, .ref q5, .int 0, .ref q6, .ref q7, .ref q8, .ref q9, .int 0, .int (Int32.ofInt (-1)), .int (Int32.ofInt (-1)), .int (Int32.ofInt (-1)), .int (Int32.ofInt (-1)), .int 0, .ref q10, .int 0, .int 0, .int 0, .int 0, .ref q11, .null, .null, .null, .null, .null, .null]))) ++ [ct_ar q12 (cA 0) 61]).set k (h0, Sum.inr (6, [.int 0, .int 0, .ref q1, .ref q2, .ref q3, .ref q4, .ref q5, .int 0, .ref q6, .ref q7, .ref q8, .ref q9, .int 0, .int (Int32.ofInt (-1)), .int (Int32.ofInt (-1)), .int (Int32.ofInt (-1)), .int (Int32.ofInt (-1)), .int 0, .ref q10, .int 0, .int 0, .int 0, .int 0, .ref q11, .ref q12, .null, .null, .null, .null, .null]))) ++ [ct_ar q13 (cA 0) 60]).set k (h0, Sum.inr (6, [.int 0, .int 0, .ref q1, .ref q2, .ref q3, .ref q4, .ref q5, .int 0, .ref q6, .ref q7, .ref q8, .ref q9, .int 0, .int (Int32.ofInt (-1)), .int (Int32.ofInt (-1)), .int (Int32.ofInt (-1)), .int (Int32.ofInt (-1)), .int 0, .ref q10, .int 0, .int 0, .int 0, .int 0, .ref q11, .ref q12, .ref q13, .null, .null, .null, .null]))) ++ [ct_ar q14 (cA 0) 60]).set k (h0, Sum.inr (6, [.int 0, .int 0, .ref q1, .ref q2, .ref q3, .ref q4, .ref q5, .int 0, .ref q6, .ref q7, .ref q8, .ref q9, .int 0, .int (Int32.ofInt (-1)), .int (Int32.ofInt (-1)), .int (Int32.ofInt (-1)), .int (Int32.ofInt (-1)), .int 0, .ref q10, .int 0, .int 0, .int 0, .int 0, .ref q11, .ref q12, .ref q13, .ref q14, .null, .null, .null]))) ++ [ct_ar q15 (cA 0) 60]).set k (h0, Sum.inr (6, [.int 0, .int 0, .ref q1, .ref q2, .ref q3, .ref q4, .ref q5, .int 0, .ref q6, .ref q7, .ref q8, .ref q9, .int 0, .int (Int32.ofInt (-1)), .int (Int32.ofInt (-1)), .int (Int32.ofInt (-1)), .int (Int32.ofInt (-1)), .int 0, .ref q10, .int 0, .int 0, .int 0, .int 0, .ref q11, .ref q12, .ref q13, .ref q14, .ref q15, .null, .null]))) H := hP
  have hD : va_D (fun q => s0.heap.size ≤ q) ((((((((((((((((((((((((((((((((((ws ++ [ct_ar q1 (cA 0) 8]).set k (h0, Sum.inr (6, [.int 0, .int 0, .ref q1, .null, .null, .null, .null, .int 0, .null, .null, .null, .null, .int 0, .int 0, .int 0, .int 0, .int 0, .int 0, .null, .int 0, .int 0, .int 0, .int 0, .null, .null, .null, .null, .null, .null, .null]))) ++ [ct_ar q2 (cA 0) 8]).set k (h0, Sum.inr (6, [.int 0, .int 0, .ref q1, .ref q2, .null, .null, .null, .int 0, .null, .null, .null, .null, .int 0, .int 0, .int 0, .int 0, .int 0, .int 0, .null, .int 0, .int 0, .int 0, .int 0, .null, .null, .null, .null, .null, .null, .null]))) ++ [ct_ar q3 (cA 0) 32]).set k (h0, Sum.inr (6, [.int 0, .int 0, .ref q1, .ref q2, .ref q3, .null, .null, .int 0, .null, .null, .null, .null, .int 0, .int 0, .int 0, .int 0, .int 0, .int 0, .null, .int 0, .int 0, .int 0, .int 0, .null, .null, .null, .null, .null, .null, .null]))) ++ [ct_ar q4 (cA 1) 4]).set k (h0, Sum.inr (6, [.int 0, .int 0, .ref q1, .ref q2, .ref q3, .ref q4, .null, .int 0, .null, .null, .null, .null, .int 0, .int 0, .int 0, .int 0, .int 0, .int 0, .null, .int 0, .int 0, .int 0, .int 0, .null, .null, .null, .null, .null, .null, .null]))) ++ [ct_ar q5 (cA 1) 81]).set k (h0, Sum.inr (6, [.int 0, .int 0, .ref q1, .ref q2, .ref q3, .ref q4, .ref q5, .int 0, .null, .null, .null, .null, .int 0, .int 0, .int 0, .int 0, .int 0, .int 0, .null, .int 0, .int 0, .int 0, .int 0, .null, .null, .null, .null, .null, .null, .null]))) ++ [ct_ar q6 (cA 1) 13500]).set k (h0, Sum.inr (6, [.int 0, .int 0, .ref q1, .ref q2, .ref q3, .ref q4, .ref q5, .int 0, .ref q6, .null, .null, .null, .int 0, .int 0, .int 0, .int 0, .int 0, .int 0, .null, .int 0, .int 0, .int 0, .int 0, .null, .null, .null, .null, .null, .null, .null]))) ++ [ct_ar q7 (cA 0) 500]).set k (h0, Sum.inr (6, [.int 0, .int 0, .ref q1, .ref q2, .ref q3, .ref q4, .ref q5, .int 0, .ref q6, .ref q7, .null, .null, .int 0, .int 0, .int 0, .int 0, .int 0, .int 0, .null, .int 0, .int 0, .int 0, .int 0, .null, .null, .null, .null, .null, .null, .null]))) ++ [ct_ar q8 (cA 1) 270]).set k (h0, Sum.inr (6, [.int 0, .int 0, .ref q1, .ref q2, .ref q3, .ref q4, .ref q5, .int 0, .ref q6, .ref q7, .ref q8, .null, .int 0, .int 0, .int 0, .int 0, .int 0, .int 0, .null, .int 0, .int 0, .int 0, .int 0, .null, .null, .null, .null, .null, .null, .null]))) ++ [ct_ar q9 (cA 0) 270]).set k (h0, Sum.inr (6, [.int 0, .int 0, .ref q1, .ref q2, .ref q3, .ref q4, .ref q5, .int 0, .ref q6, .ref q7, .ref q8, .ref q9, .int 0, .int 0, .int 0, .int 0, .int 0, .int 0, .null, .int 0, .int 0, .int 0, .int 0, .null, .null, .null, .null, .null, .null, .null]))).set k (h0, Sum.inr (6, [.int 0, .int 0, .ref q1, .ref q2, .ref q3, .ref q4, .ref q5, .int 0, .ref q6, .ref q7, .ref q8, .ref q9, .int 0, .int (Int32.ofInt (-1)), .int 0, .int 0, .int 0, .int 0, .null, .int 0, .int 0, .int 0, .int 0, .null, .null, .null, .null, .null, .null, .null]))).set k (h0, Sum.inr (6, [.int 0, .int 0, .ref q1, .ref q2, .ref q3, .ref q4, .ref q5, .int 0, .ref q6, .ref q7, .ref q8, .ref q9, .int 0, .int (Int32.ofInt (-1)), .int (Int32.ofInt (-1)), .int 0, .int 0, .int 0, .null, .int 0, .int 0, .int 0, .int 0, .null, .null, .null, .null, .null, .null, .null]))).set k (h0, Sum.inr (6, [.int 0, .int 0, .ref q1, .ref q2, .ref q3, .ref q4, .ref q5, .int 0, .ref q6, .ref q7, .ref q8, .ref q9, .int 0, .int (Int32.ofInt (-1)), .int (Int32.ofInt (-1)), .int (Int32.ofInt (-1)), .int 0, .int 0, .null, .int 0, .int 0, .int 0, .int 0, .null, .null, .null, .null, .null, .null, .null]))).set k (h0, Sum.inr (6, [.int 0, .int 0, .ref q1, .ref q2, .ref q3, .ref q4, .ref q5, .int 0, .ref q6, .ref q7, .ref q8, .ref q9, .int 0, .int (Int32.ofInt (-1)), .int (Int32.ofInt (-1)), .int (Int32.ofInt (-1)), .int (Int32.ofInt (-1)), .int 0, .null, .int 0, .int 0, .int 0, .int 0, .null, .null, .null, .null, .null, .null, .null]))) ++ [ct_ar q10 (cA 0) 20]).set k (h0, Sum.inr (6, [.int 0, .int 0, .ref q1, .ref q2, .ref q3, .ref q4, .ref q5, .int 0, .ref q6, .ref q7, .ref q8, .ref q9, .int 0, .int (Int32.ofInt (-1)), .int (Int32.ofInt (-1)), .int (Int32.ofInt (-1)), .int (Int32.ofInt (-1)), .int 0, .ref q10, .int 0, .int 0, .int 0, .int 0, .null, .null, .null, .null, .null, .null, .null]))) ++ [ct_ar q11 (cA 0) 61]).set k (h0, Sum.inr (6, [.int 0, .int 0, .ref q1, .ref q2, .ref q3, .ref q4, .ref q5, .int 0, .ref q6, .ref q7, .ref q8, .ref q9, .int 0, .int (Int32.ofInt (-1)), .int (Int32.ofInt (-1)), .int (Int32.ofInt (-1)), .int (Int32.ofInt (-1)), .int 0, .ref q10, .int 0, .int 0, .int 0, .int 0, .ref q11, .null, .null, .null, .null, .null, .null]))) ++ [ct_ar q12 (cA 0) 61]).set k (h0, Sum.inr (6, [.int 0, .int 0, .ref q1, .ref q2, .ref q3, .ref q4, .ref q5, .int 0, .ref q6, .ref q7, .ref q8, .ref q9, .int 0, .int (Int32.ofInt (-1)), .int (Int32.ofInt (-1)), .int (Int32.ofInt (-1)), .int (Int32.ofInt (-1)), .int 0, .ref q10, .int 0, .int 0, .int 0, .int 0, .ref q11, .ref q12, .null, .null, .null, .null, .null]))) ++ [ct_ar q13 (cA 0) 60]).set k (h0, Sum.inr (6, [.int 0, .int 0, .ref q1, .ref q2, .ref q3, .ref q4, .ref q5, .int 0, .ref q6, .ref q7, .ref q8, .ref q9, .int 0, .int (Int32.ofInt (-1)), .int (Int32.ofInt (-1)), .int (Int32.ofInt (-1)), .int (Int32.ofInt (-1)), .int 0, .ref q10, .int 0, .int 0, .int 0, .int 0, .ref q11, .ref q12, .ref q13, .null, .null, .null, .null]))) ++ [ct_ar q14 (cA 0) 60]).set k (h0, Sum.inr (6, [.int 0, .int 0, .ref q1, .ref q2, .ref q3, .ref q4, .ref q5, .int 0, .ref q6, .ref q7, .ref q8, .ref q9, .int 0, .int (Int32.ofInt (-1)), .int (Int32.ofInt (-1)), .int (Int32.ofInt (-1)), .int (Int32.ofInt (-1)), .int 0, .ref q10, .int 0, .int 0, .int 0, .int 0, .ref q11, .ref q12, .ref q13, .ref q14, .null, .null, .null]))) ++ [ct_ar q15 (cA 0) 60]).set k (h0, Sum.inr (6, [.int 0, .int 0, .ref q1, .ref q2, .ref q3, .ref q4, .ref q5, .int 0, .ref q6, .ref q7, .ref q8, .ref q9, .int 0, .int (Int32.ofInt (-1)), .int (Int32.ofInt (-1)), .int (Int32.ofInt (-1)), .int (Int32.ofInt (-1)), .int 0, .ref q10, .int 0, .int 0, .int 0, .int 0, .ref q11, .ref q12, .ref q13, .ref q14, .ref q15, .null, .null]))) := hD
  refine ct_arr (ws := ((((((((((((((((((((((((((((((((((ws ++ [ct_ar q1 (cA 0) 8]).set k (h0, Sum.inr (6, [.int 0, .int 0, .ref q1, .null, .null, .null, .null, .int 0, .null, .null, .null, .null, .int 0, .int 0, .int 0, .int 0, .int 0, .int 0, .null, .int 0, .int 0, .int 0, .int 0, .null, .null, .null, .null, .null, .null, .null]))) ++ [ct_ar q2 (cA 0) 8]).set k (h0, Sum.inr (6, [.int 0, .int 0, .ref q1, .ref q2, .null, .null, .null, .int 0, .null, .null, .null, .null, .int 0, .int 0, .int 0, .int 0, .int 0, .int 0, .null, .int 0, .int 0, .int 0, .int 0, .null, .null, .null, .null, .null, .null, .null]))) ++ [ct_ar q3 (cA 0) 32]).set k (h0, Sum.inr (6, [.int 0, .int 0, .ref q1, .ref q2, .ref q3, .null, .null, .int 0, .null, .null, .null, .null, .int 0, .int 0, .int 0, .int 0, .int 0, .int 0, .null, .int 0, .int 0, .int 0, .int 0, .null, .null, .null, .null, .null, .null, .null]))) ++ [ct_ar q4 (cA 1) 4]).set k (h0, Sum.inr (6, [.int 0, .int 0, .ref q1, .ref q2, .ref q3, .ref q4, .null, .int 0, .null, .null, .null, .null, .int 0, .int 0, .int 0, .int 0, .int 0, .int 0, .null, .int 0, .int 0, .int 0, .int 0, .null, .null, .null, .null, .null, .null, .null]))) ++ [ct_ar q5 (cA 1) 81]).set k (h0, Sum.inr (6, [.int 0, .int 0, .ref q1, .ref q2, .ref q3, .ref q4, .ref q5, .int 0, .null, .null, .null, .null, .int 0, .int 0, .int 0, .int 0, .int 0, .int 0, .null, .int 0, .int 0, .int 0, .int 0, .null, .null, .null, .null, .null, .null, .null]))) ++ [ct_ar q6 (cA 1) 13500]).set k (h0, Sum.inr (6, [.int 0, .int 0, .ref q1, .ref q2, .ref q3, .ref q4, .ref q5, .int 0, .ref q6, .null, .null, .null, .int 0, .int 0, .int 0, .int 0, .int 0, .int 0, .null, .int 0, .int 0, .int 0, .int 0, .null, .null, .null, .null, .null, .null, .null]))) ++ [ct_ar q7 (cA 0) 500]).set k (h0, Sum.inr (6, [.int 0, .int 0, .ref q1, .ref q2, .ref q3, .ref q4, .ref q5, .int 0, .ref q6, .ref q7, .null, .null, .int 0, .int 0, .int 0, .int 0, .int 0, .int 0, .null, .int 0, .int 0, .int 0, .int 0, .null, .null, .null, .null, .null, .null, .null]))) ++ [ct_ar q8 (cA 1) 270]).set k (h0, Sum.inr (6, [.int 0, .int 0, .ref q1, .ref q2, .ref q3, .ref q4, .ref q5, .int 0, .ref q6, .ref q7, .ref q8, .null, .int 0, .int 0, .int 0, .int 0, .int 0, .int 0, .null, .int 0, .int 0, .int 0, .int 0, .null, .null, .null, .null, .null, .null, .null]))) ++ [ct_ar q9 (cA 0) 270]).set k (h0, Sum.inr (6, [.int 0, .int 0, .ref q1, .ref q2, .ref q3, .ref q4, .ref q5, .int 0, .ref q6, .ref q7, .ref q8, .ref q9, .int 0, .int 0, .int 0, .int 0, .int 0, .int 0, .null, .int 0, .int 0, .int 0, .int 0, .null, .null, .null, .null, .null, .null, .null]))).set k (h0, Sum.inr (6, [.int 0, .int 0, .ref q1, .ref q2, .ref q3, .ref q4, .ref q5, .int 0, .ref q6, .ref q7, .ref q8, .ref q9, .int 0, .int (Int32.ofInt (-1)), .int 0, .int 0, .int 0, .int 0, .null, .int 0, .int 0, .int 0, .int 0, .null, .null, .null, .null, .null, .null, .null]))).set k (h0, Sum.inr (6, [.int 0, .int 0, .ref q1, .ref q2, .ref q3, .ref q4, .ref q5, .int 0, .ref q6, .ref q7, .ref q8, .ref q9, .int 0, .int (Int32.ofInt (-1)), .int (Int32.ofInt (-1)), .int 0, .int 0, .int 0, .null, .int 0, .int 0, .int 0, .int 0, .null, .null, .null, .null, .null, .null, .null]))).set k (h0, Sum.inr (6, [.int 0, .int 0, .ref q1, .ref q2, .ref q3, .ref q4, .ref q5, .int 0, .ref q6, .ref q7, .ref q8, .ref q9, .int 0, .int (Int32.ofInt (-1)), .int (Int32.ofInt (-1)), .int (Int32.ofInt (-1)), .int 0, .int 0, .null, .int 0, .int 0, .int 0, .int 0, .null, .null, .null, .null, .null, .null, .null]))).set k (h0, Sum.inr (6, [.int 0, .int 0, .ref q1, .ref q2, .ref q3, .ref q4, .ref q5, .int 0, .ref q6, .ref q7, .ref q8, .ref q9, .int 0, .int (Int32.ofInt (-1)), .int (Int32.ofInt (-1)), .int (Int32.ofInt (-1)), .int (Int32.ofInt (-1)), .int 0, .null, .int 0, .int 0, .int 0, .int 0, .null, .null, .null, .null, .null, .null, .null]))) ++ [ct_ar q10 (cA 0) 20]).set k (h0, Sum.inr (6, [.int 0, .int 0, .ref q1, .ref q2, .ref q3, .ref q4, .ref q5, .int 0, .ref q6, .ref q7, .ref q8, .ref q9, .int 0, .int (Int32.ofInt (-1)), .int (Int32.ofInt (-1)), .int (Int32.ofInt (-1)), .int (Int32.ofInt (-1)), .int 0, .ref q10, .int 0, .int 0, .int 0, .int 0, .null, .null, .null, .null, .null, .null, .null]))) ++ [ct_ar q11 (cA 0) 61]).set k (h0, Sum.inr (6, [.int 0, .int 0, .ref q1, .ref q2, .ref q3, .ref q4, .ref q5, .int 0, .ref q6, .ref q7, .ref q8, .ref q9, .int 0, .int (Int32.ofInt (-1)), .int (Int32.ofInt (-1)), .int (Int32.ofInt (-1)), .int (Int32.ofInt (-1)), .int 0, .ref q10, .int 0, .int 0, .int 0, .int 0, .ref q11, .null, .null, .null, .null, .null, .null]))) ++ [ct_ar q12 (cA 0) 61]).set k (h0, Sum.inr (6, [.int 0, .int 0, .ref q1, .ref q2, .ref q3, .ref q4, .ref q5, .int 0, .ref q6, .ref q7, .ref q8, .ref q9, .int 0, .int (Int32.ofInt (-1)), .int (Int32.ofInt (-1)), .int (Int32.ofInt (-1)), .int (Int32.ofInt (-1)), .int 0, .ref q10, .int 0, .int 0, .int 0, .int 0, .ref q11, .ref q12, .null, .null, .null, .null, .null]))) ++ [ct_ar q13 (cA 0) 60]).set k (h0, Sum.inr (6, [.int 0, .int 0, .ref q1, .ref q2, .ref q3, .ref q4, .ref q5, .int 0, .ref q6, .ref q7, .ref q8, .ref q9, .int 0, .int (Int32.ofInt (-1)), .int (Int32.ofInt (-1)), .int (Int32.ofInt (-1)), .int (Int32.ofInt (-1)), .int 0, .ref q10, .int 0, .int 0, .int 0, .int 0, .ref q11, .ref q12, .ref q13, .null, .null, .null, .null]))) ++ [ct_ar q14 (cA 0) 60]).set k (h0, Sum.inr (6, [.int 0, .int 0, .ref q1, .ref q2, .ref q3, .ref q4, .ref q5, .int 0, .ref q6, .ref q7, .ref q8, .ref q9, .int 0, .int (Int32.ofInt (-1)), .int (Int32.ofInt (-1)), .int (Int32.ofInt (-1)), .int (Int32.ofInt (-1)), .int 0, .ref q10, .int 0, .int 0, .int 0, .int 0, .ref q11, .ref q12, .ref q13, .ref q14, .null, .null, .null]))) ++ [ct_ar q15 (cA 0) 60]).set k (h0, Sum.inr (6, [.int 0, .int 0, .ref q1, .ref q2, .ref q3, .ref q4, .ref q5, .int 0, .ref q6, .ref q7, .ref q8, .ref q9, .int 0, .int (Int32.ofInt (-1)), .int (Int32.ofInt (-1)), .int (Int32.ofInt (-1)), .int (Int32.ofInt (-1)), .int 0, .ref q10, .int 0, .int 0, .int 0, .int 0, .ref q11, .ref q12, .ref q13, .ref q14, .ref q15, .null, .null])))) (k := k) (h0 := h0) (f := 28) (fs := [.int 0, .int 0, .ref q1, .ref q2, .ref q3, .ref q4, .ref q5, .int 0, .ref q6, .ref q7, .ref q8, .ref q9, .int 0, .int (Int32.ofInt (-1)), .int (Int32.ofInt (-1)), .int (Int32.ofInt (-1)), .int (Int32.ofInt (-1)), .int 0, .ref q10, .int 0, .int 0, .int 0, .int 0, .ref q11, .ref q12, .ref q13, .ref q14, .ref q15, .null, .null]) (tk := 0) (idx := 69) (N' := 60) hE hx hb (by decide) hown hin hW0 hsz hg hP hD hS (lv_at hl 0 rfl) cn_6_d147 (fun z => lv_bipush hx hb cn_6_d148 (v := 60) rfl z) cn_6_d150 cn_6_d152 rfl rfl rfl aw_0 (by decide) rfl (by decide) (Nat.le_of_ble_eq_true rfl) (Nat.le_of_ble_eq_true rfl) (Nat.le_of_ble_eq_true rfl) (Nat.le_of_ble_eq_true rfl) rfl cn_6_l69 (fun _ => rfl) (fun _ => rfl) (fun q16 H locs hP hD hS => ?_)
  have hg := ct_g1 (y := ct_ar q16 (cA 0) 60) (z := (h0, Sum.inr (6, [.int 0, .int 0, .ref q1, .ref q2, .ref q3, .ref q4, .ref q5, .int 0, .ref q6, .ref q7, .ref q8, .ref q9, .int 0, .int (Int32.ofInt (-1)), .int (Int32.ofInt (-1)), .int (Int32.ofInt (-1)), .int (Int32.ofInt (-1)), .int 0, .ref q10, .int 0, .int 0, .int 0, .int 0, .ref q11, .ref q12, .ref q13, .ref q14, .ref q15, .ref q16, .null]))) hg
  have hP : va_P (dC, dI) ab_cls ((((((((((((((((((((((((((((((((((((ws ++ [ct_ar q1 (cA 0) 8]).set k (h0, Sum.inr (6, [.int 0, .int 0, .ref q1, .null, .null, .null, .null, .int 0, .null, .null, .null, .null, .int 0, .int 0, .int 0, .int 0, .int 0, .int 0, .null, .int 0, .int 0, .int 0, .int 0, .null, .null, .null, .null, .null, .null, .null]))) ++ [ct_ar q2 (cA 0) 8]).set k (h0, Sum.inr (6, [.int 0, .int 0, .ref q1, .ref q2, .null, .null, .null, .int 0, .null, .null, .null, .null, .int 0, .int 0, .int 0, .int 0, .int 0, .int 0, .null, .int 0, .int 0, .int 0, .int 0, .null, .null, .null, .null, .null, .null, .null]))) ++ [ct_ar q3 (cA 0) 32]).set k (h0, Sum.inr (6, [.int 0, .int 0, .ref q1, .ref q2, .ref q3, .null, .null, .int 0, .null, .null, .null, .null, .int 0, .int 0, .int 0, .int 0, .int 0, .int 0, .null, .int 0, .int 0, .int 0, .int 0, .null, .null, .null, .null, .null, .null, .null]))) ++ [ct_ar q4 (cA 1) 4]).set k (h0, Sum.inr (6, [.int 0, .int 0, .ref q1, .ref q2, .ref q3, .ref q4, .null, .int 0, .null, .null, .null, .null, .int 0, .int 0, .int 0, .int 0, .int 0, .int 0, .null, .int 0, .int 0, .int 0, .int 0, .null, .null, .null, .null, .null, .null, .null]))) ++ [ct_ar q5 (cA 1) 81]).set k (h0, Sum.inr (6, [.int 0, .int 0, .ref q1, .ref q2, .ref q3, .ref q4, .ref q5, .int 0, .null, .null, .null, .null, .int 0, .int 0, .int 0, .int 0, .int 0, .int 0, .null, .int 0, .int 0, .int 0, .int 0, .null, .null, .null, .null, .null, .null, .null]))) ++ [ct_ar q6 (cA 1) 13500]).set k (h0, Sum.inr (6, [.int 0, .int 0, .ref q1, .ref q2, .ref q3, .ref q4, .ref q5, .int 0, .ref q6, .null, .null, .null, .int 0, .int 0, .int 0, .int 0, .int 0, .int 0, .null, .int 0, .int 0, .int 0, .int 0, .null, .null, .null, .null, .null, .null, .null]))) ++ [ct_ar q7 (cA 0) 500]).set k (h0, Sum.inr (6, [.int 0, .int 0, .ref q1, .ref q2, .ref q3, .ref q4, .ref q5, .int 0, .ref q6, .ref q7, .null, .null, .int 0, .int 0, .int 0, .int 0, .int 0, .int 0, .null, .int 0, .int 0, .int 0, .int 0, .null, .null, .null, .null, .null, .null, .null]))) ++ [ct_ar q8 (cA 1) 270]).set k (h0, Sum.inr (6, [.int 0, .int 0, .ref q1, .ref q2, .ref q3, .ref q4, .ref q5, .int 0, .ref q6, .ref q7, .ref q8, .null, .int 0, .int 0, .int 0, .int 0, .int 0, .int 0, .null, .int 0, .int 0, .int 0, .int 0, .null, .null, .null, .null, .null, .null, .null]))) ++ [ct_ar q9 (cA 0) 270]).set k (h0, Sum.inr (6, [.int 0, .int 0, .ref q1, .ref q2, .ref q3, .ref q4, .ref q5, .int 0, .ref q6, .ref q7, .ref q8, .ref q9, .int 0, .int 0, .int 0, .int 0, .int 0, .int 0, .null, .int 0, .int 0, .int 0, .int 0, .null, .null, .null, .null, .null, .null, .null]))).set k (h0, Sum.inr (6, [.int 0, .int 0, .ref q1, .ref q2, .ref q3, .ref q4, .ref q5, .int 0, .ref q6, .ref q7, .ref q8, .ref q9, .int 0, .int (Int32.ofInt (-1)), .int 0, .int 0, .int 0, .int 0, .null, .int 0, .int 0, .int 0, .int 0, .null, .null, .null, .null, .null, .null, .null]))).set k (h0, Sum.inr (6, [.int 0, .int 0, .ref q1, .ref q2, .ref q3, .ref q4, .ref q5, .int 0, .ref q6, .ref q7, .ref q8, .ref q9, .int 0, .int (Int32.ofInt (-1)), .int (Int32.ofInt (-1)), .int 0, .int 0, .int 0, .null, .int 0, .int 0, .int 0, .int 0, .null, .null, .null, .null, .null, .null, .null]))).set k (h0, Sum.inr (6, [.int 0, .int 0, .ref q1, .ref q2, .ref q3, .ref q4, .ref q5, .int 0, .ref q6, .ref q7, .ref q8, .ref q9, .int 0, .int (Int32.ofInt (-1)), .int (Int32.ofInt (-1)), .int (Int32.ofInt (-1)), .int 0, .int 0, .null, .int 0, .int 0, .int 0, .int 0, .null, .null, .null, .null, .null, .null, .null]))).set k (h0, Sum.inr (6, [.int 0, .int 0, .ref q1, .ref q2, .ref q3, .ref q4, .ref q5, .int 0, .ref q6, .ref q7, .ref q8, .ref q9, .int 0, .int (Int32.ofInt (-1)), .int (Int32.ofInt (-1)), .int (Int32.ofInt (-1)), .int (Int32.ofInt (-1)), .int 0, .null, .int 0, .int 0, .int 0, .int 0, .null, .null, .null, .null, .null, .null, .null]))) ++ [ct_ar q10 (cA 0) 20]).set k (h0, Sum.inr (6, [.int 0, .int 0, .ref q1, .ref q2, .ref q3, .ref q4, .ref q5, .int 0, .ref q6, .ref q7, .ref q8, .ref q9, .int 0, .int (Int32.ofInt (-1)), .int (Int32.ofInt (-1)), .int (Int32.ofInt (-1)), .int (Int32.ofInt (-1)), .int 0, .ref q10, .int 0, .int 0, .int 0, .int 0, .null, .null, .null, .null, .null, .null, .null]))) ++ [ct_ar q11 (cA 0) 61]).set k (h0, Sum.inr (6, [.int 0, .int 0, .ref q1, .ref q2, .ref q3, .ref q4, .ref q5, .int 0, .ref q6, .ref q7, .ref q8, .ref q9, .int 0, .int (Int32.ofInt (-1)), .int (Int32.ofInt (-1)), .int (Int32.ofInt (-1)), .int (Int32.ofInt (-1)), .int 0, .ref q10, .int 0, .int 0, .int 0, .int 0, .ref q11, .null, .null, .null, .null, .null, .null]))) ++ [ct_ar q12 (cA 0) 61]).set k (h0, Sum.inr (6, [.int 0, .int 0, .ref q1, .ref q2, .ref q3, .ref q4, .ref q5, .int 0, .ref q6, .ref q7, .ref q8, .ref q9, .int 0, .int (Int32.ofInt (-1)), .int (Int32.ofInt (-1)), .int (Int32.ofInt (-1)), .int (Int32.ofInt (-1)), .int 0, .ref q10, .int 0, .int 0, .int 0, .int 0, .ref q11, .ref q12, .null, .null, .null, .null, .null]))) ++ [ct_ar q13 (cA 0) 60]).set k (h0, Sum.inr (6, [.int 0, .int 0, .ref q1, .ref q2, .ref q3, .ref q4, .ref q5, .int 0, .ref q6, .ref q7, .ref q8, .ref q9, .int 0, .int (Int32.ofInt (-1)), .int (Int32.ofInt (-1)), .int (Int32.ofInt (-1)), .int (Int32.ofInt (-1)), .int 0, .ref q10, .int 0, .int 0, .int 0, .int 0, .ref q11, .ref q12, .ref q13, .null, .null, .null, .null]))) ++ [ct_ar q14 (cA 0) 60]).set k (h0, Sum.inr (6, [.int 0, .int 0, .ref q1, .ref q2, .ref q3, .ref q4, .ref q5, .int 0, .ref q6, .ref q7, .ref q8, .ref q9, .int 0, .int (Int32.ofInt (-1)), .int (Int32.ofInt (-1)), .int (Int32.ofInt (-1)), .int (Int32.ofInt (-1)), .int 0, .ref q10, .int 0, .int 0, .int 0, .int 0, .ref q11, .ref q12, .ref q13, .ref q14, .null, .null, .null]))) ++ [ct_ar q15 (cA 0) 60]).set k (h0, Sum.inr (6, [.int 0, .int 0, .ref q1, .ref q2, .ref q3, .ref q4, .ref q5, .int 0, .ref q6, .ref q7, .ref q8, .ref q9, .int 0, .int (Int32.ofInt (-1)), .int (Int32.ofInt (-1)), .int (Int32.ofInt (-1)), .int (Int32.ofInt (-1)), .int 0, .ref q10, .int 0, .int 0, .int 0, .int 0, .ref q11, .ref q12, .ref q13, .ref q14, .ref q15, .null, .null]))) ++ [ct_ar q16 (cA 0) 60]).set k (h0, Sum.inr (6, [.int 0, .int 0, .ref q1, .ref q2, .ref q3, .ref q4, .ref q5, .int 0, .ref q6, .ref q7, .ref q8, .ref q9, .int 0, .int (Int32.ofInt (-1)), .int (Int32.ofInt (-1)), .int (Int32.ofInt (-1)), .int (Int32.ofInt (-1)), .int 0, .ref q10, .int 0, .int 0, .int 0, .int 0, .ref q11, .ref q12, .ref q13, .ref q14, .ref q15, .ref q16, .null]))) H := hP
  have hD : va_D (fun q => s0.heap.size ≤ q) ((((((((((((((((((((((((((((((((((((ws ++ [ct_ar q1 (cA 0) 8]).set k (h0, Sum.inr (6, [.int 0, .int 0, .ref q1, .null, .null, .null, .null, .int 0, .null, .null, .null, .null, .int 0, .int 0, .int 0, .int 0, .int 0, .int 0, .null, .int 0, .int 0, .int 0, .int 0, .null, .null, .null, .null, .null, .null, .null]))) ++ [ct_ar q2 (cA 0) 8]).set k (h0, Sum.inr (6, [.int 0, .int 0, .ref q1, .ref q2, .null, .null, .null, .int 0, .null, .null, .null, .null, .int 0, .int 0, .int 0, .int 0, .int 0, .int 0, .null, .int 0, .int 0, .int 0, .int 0, .null, .null, .null, .null, .null, .null, .null]))) ++ [ct_ar q3 (cA 0) 32]).set k (h0, Sum.inr (6, [.int 0, .int 0, .ref q1, .ref q2, .ref q3, .null, .null, .int 0, .null, .null, .null, .null, .int 0, .int 0, .int 0, .int 0, .int 0, .int 0, .null, .int 0, .int 0, .int 0, .int 0, .null, .null, .null, .null, .null, .null, .null]))) ++ [ct_ar q4 (cA 1) 4]).set k (h0, Sum.inr (6, [.int 0, .int 0, .ref q1, .ref q2, .ref q3, .ref q4, .null, .int 0, .null, .null, .null, .null, .int 0, .int 0, .int 0, .int 0, .int 0, .int 0, .null, .int 0, .int 0, .int 0, .int 0, .null, .null, .null, .null, .null, .null, .null]))) ++ [ct_ar q5 (cA 1) 81]).set k (h0, Sum.inr (6, [.int 0, .int 0, .ref q1, .ref q2, .ref q3, .ref q4, .ref q5, .int 0, .null, .null, .null, .null, .int 0, .int 0, .int 0, .int 0, .int 0, .int 0, .null, .int 0, .int 0, .int 0, .int 0, .null, .null, .null, .null, .null, .null, .null]))) ++ [ct_ar q6 (cA 1) 13500]).set k (h0, Sum.inr (6, [.int 0, .int 0, .ref q1, .ref q2, .ref q3, .ref q4, .ref q5, .int 0, .ref q6, .null, .null, .null, .int 0, .int 0, .int 0, .int 0, .int 0, .int 0, .null, .int 0, .int 0, .int 0, .int 0, .null, .null, .null, .null, .null, .null, .null]))) ++ [ct_ar q7 (cA 0) 500]).set k (h0, Sum.inr (6, [.int 0, .int 0, .ref q1, .ref q2, .ref q3, .ref q4, .ref q5, .int 0, .ref q6, .ref q7, .null, .null, .int 0, .int 0, .int 0, .int 0, .int 0, .int 0, .null, .int 0, .int 0, .int 0, .int 0, .null, .null, .null, .null, .null, .null, .null]))) ++ [ct_ar q8 (cA 1) 270]).set k (h0, Sum.inr (6, [.int 0, .int 0, .ref q1, .ref q2, .ref q3, .ref q4, .ref q5, .int 0, .ref q6, .ref q7, .ref q8, .null, .int 0, .int 0, .int 0, .int 0, .int 0, .int 0, .null, .int 0, .int 0, .int 0, .int 0, .null, .null, .null, .null, .null, .null, .null]))) ++ [ct_ar q9 (cA 0) 270]).set k (h0, Sum.inr (6, [.int 0, .int 0, .ref q1, .ref q2, .ref q3, .ref q4, .ref q5, .int 0, .ref q6, .ref q7, .ref q8, .ref q9, .int 0, .int 0, .int 0, .int 0, .int 0, .int 0, .null, .int 0, .int 0, .int 0, .int 0, .null, .null, .null, .null, .null, .null, .null]))).set k (h0, Sum.inr (6, [.int 0, .int 0, .ref q1, .ref q2, .ref q3, .ref q4, .ref q5, .int 0, .ref q6, .ref q7, .ref q8, .ref q9, .int 0, .int (Int32.ofInt (-1)), .int 0, .int 0, .int 0, .int 0, .null, .int 0, .int 0, .int 0, .int 0, .null, .null, .null, .null, .null, .null, .null]))).set k (h0, Sum.inr (6, [.int 0, .int 0, .ref q1, .ref q2, .ref q3, .ref q4, .ref q5, .int 0, .ref q6, .ref q7, .ref q8, .ref q9, .int 0, .int (Int32.ofInt (-1)), .int (Int32.ofInt (-1)), .int 0, .int 0, .int 0, .null, .int 0, .int 0, .int 0, .int 0, .null, .null, .null, .null, .null, .null, .null]))).set k (h0, Sum.inr (6, [.int 0, .int 0, .ref q1, .ref q2, .ref q3, .ref q4, .ref q5, .int 0, .ref q6, .ref q7, .ref q8, .ref q9, .int 0, .int (Int32.ofInt (-1)), .int (Int32.ofInt (-1)), .int (Int32.ofInt (-1)), .int 0, .int 0, .null, .int 0, .int 0, .int 0, .int 0, .null, .null, .null, .null, .null, .null, .null]))).set k (h0, Sum.inr (6, [.int 0, .int 0, .ref q1, .ref q2, .ref q3, .ref q4, .ref q5, .int 0, .ref q6, .ref q7, .ref q8, .ref q9, .int 0, .int (Int32.ofInt (-1)), .int (Int32.ofInt (-1)), .int (Int32.ofInt (-1)), .int (Int32.ofInt (-1)), .int 0, .null, .int 0, .int 0, .int 0, .int 0, .null, .null, .null, .null, .null, .null, .null]))) ++ [ct_ar q10 (cA 0) 20]).set k (h0, Sum.inr (6, [.int 0, .int 0, .ref q1, .ref q2, .ref q3, .ref q4, .ref q5, .int 0, .ref q6, .ref q7, .ref q8, .ref q9, .int 0, .int (Int32.ofInt (-1)), .int (Int32.ofInt (-1)), .int (Int32.ofInt (-1)), .int (Int32.ofInt (-1)), .int 0, .ref q10, .int 0, .int 0, .int 0, .int 0, .null, .null, .null, .null, .null, .null, .null]))) ++ [ct_ar q11 (cA 0) 61]).set k (h0, Sum.inr (6, [.int 0, .int 0, .ref q1, .ref q2, .ref q3, .ref q4, .ref q5, .int 0, .ref q6, .ref q7, .ref q8, .ref q9, .int 0, .int (Int32.ofInt (-1)), .int (Int32.ofInt (-1)), .int (Int32.ofInt (-1)), .int (Int32.ofInt (-1)), .int 0, .ref q10, .int 0, .int 0, .int 0, .int 0, .ref q11, .null, .null, .null, .null, .null, .null]))) ++ [ct_ar q12 (cA 0) 61]).set k (h0, Sum.inr (6, [.int 0, .int 0, .ref q1, .ref q2, .ref q3, .ref q4, .ref q5, .int 0, .ref q6, .ref q7, .ref q8, .ref q9, .int 0, .int (Int32.ofInt (-1)), .int (Int32.ofInt (-1)), .int (Int32.ofInt (-1)), .int (Int32.ofInt (-1)), .int 0, .ref q10, .int 0, .int 0, .int 0, .int 0, .ref q11, .ref q12, .null, .null, .null, .null, .null]))) ++ [ct_ar q13 (cA 0) 60]).set k (h0, Sum.inr (6, [.int 0, .int 0, .ref q1, .ref q2, .ref q3, .ref q4, .ref q5, .int 0, .ref q6, .ref q7, .ref q8, .ref q9, .int 0, .int (Int32.ofInt (-1)), .int (Int32.ofInt (-1)), .int (Int32.ofInt (-1)), .int (Int32.ofInt (-1)), .int 0, .ref q10, .int 0, .int 0, .int 0, .int 0, .ref q11, .ref q12, .ref q13, .null, .null, .null, .null]))) ++ [ct_ar q14 (cA 0) 60]).set k (h0, Sum.inr (6, [.int 0, .int 0, .ref q1, .ref q2, .ref q3, .ref q4, .ref q5, .int 0, .ref q6, .ref q7, .ref q8, .ref q9, .int 0, .int (Int32.ofInt (-1)), .int (Int32.ofInt (-1)), .int (Int32.ofInt (-1)), .int (Int32.ofInt (-1)), .int 0, .ref q10, .int 0, .int 0, .int 0, .int 0, .ref q11, .ref q12, .ref q13, .ref q14, .null, .null, .null]))) ++ [ct_ar q15 (cA 0) 60]).set k (h0, Sum.inr (6, [.int 0, .int 0, .ref q1, .ref q2, .ref q3, .ref q4, .ref q5, .int 0, .ref q6, .ref q7, .ref q8, .ref q9, .int 0, .int (Int32.ofInt (-1)), .int (Int32.ofInt (-1)), .int (Int32.ofInt (-1)), .int (Int32.ofInt (-1)), .int 0, .ref q10, .int 0, .int 0, .int 0, .int 0, .ref q11, .ref q12, .ref q13, .ref q14, .ref q15, .null, .null]))) ++ [ct_ar q16 (cA 0) 60]).set k (h0, Sum.inr (6, [.int 0, .int 0, .ref q1, .ref q2, .ref q3, .ref q4, .ref q5, .int 0, .ref q6, .ref q7, .ref q8, .ref q9, .int 0, .int (Int32.ofInt (-1)), .int (Int32.ofInt (-1)), .int (Int32.ofInt (-1)), .int (Int32.ofInt (-1)), .int 0, .ref q10, .int 0, .int 0, .int 0, .int 0, .ref q11, .ref q12, .ref q13, .ref q14, .ref q15, .ref q16, .null]))) := hD
  refine ct_arr (ws := ((((((((((((((((((((((((((((((((((((ws ++ [ct_ar q1 (cA 0) 8]).set k (h0, Sum.inr (6, [.int 0, .int 0, .ref q1, .null, .null, .null, .null, .int 0, .null, .null, .null, .null, .int 0, .int 0, .int 0, .int 0, .int 0, .int 0, .null, .int 0, .int 0, .int 0, .int 0, .null, .null, .null, .null, .null, .null, .null]))) ++ [ct_ar q2 (cA 0) 8]).set k (h0, Sum.inr (6, [.int 0, .int 0, .ref q1, .ref q2, .null, .null, .null, .int 0, .null, .null, .null, .null, .int 0, .int 0, .int 0, .int 0, .int 0, .int 0, .null, .int 0, .int 0, .int 0, .int 0, .null, .null, .null, .null, .null, .null, .null]))) ++ [ct_ar q3 (cA 0) 32]).set k (h0, Sum.inr (6, [.int 0, .int 0, .ref q1, .ref q2, .ref q3, .null, .null, .int 0, .null, .null, .null, .null, .int 0, .int 0, .int 0, .int 0, .int 0, .int 0, .null, .int 0, .int 0, .int 0, .int 0, .null, .null, .null, .null, .null, .null, .null]))) ++ [ct_ar q4 (cA 1) 4]).set k (h0, Sum.inr (6, [.int 0, .int 0, .ref q1, .ref q2, .ref q3, .ref q4, .null, .int 0, .null, .null, .null, .null, .int 0, .int 0, .int 0, .int 0, .int 0, .int 0, .null, .int 0, .int 0, .int 0, .int 0, .null, .null, .null, .null, .null, .null, .null]))) ++ [ct_ar q5 (cA 1) 81]).set k (h0, Sum.inr (6, [.int 0, .int 0, .ref q1, .ref q2, .ref q3, .ref q4, .ref q5, .int 0, .null, .null, .null, .null, .int 0, .int 0, .int 0, .int 0, .int 0, .int 0, .null, .int 0, .int 0, .int 0, .int 0, .null, .null, .null, .null, .null, .null, .null]))) ++ [ct_ar q6 (cA 1) 13500]).set k (h0, Sum.inr (6, [.int 0, .int 0, .ref q1, .ref q2, .ref q3, .ref q4, .ref q5, .int 0, .ref q6, .null, .null, .null, .int 0, .int 0, .int 0, .int 0, .int 0, .int 0, .null, .int 0, .int 0, .int 0, .int 0, .null, .null, .null, .null, .null, .null, .null]))) ++ [ct_ar q7 (cA 0) 500]).set k (h0, Sum.inr (6, [.int 0, .int 0, .ref q1, .ref q2, .ref q3, .ref q4, .ref q5, .int 0, .ref q6, .ref q7, .null, .null, .int 0, .int 0, .int 0, .int 0, .int 0, .int 0, .null, .int 0, .int 0, .int 0, .int 0, .null, .null, .null, .null, .null, .null, .null]))) ++ [ct_ar q8 (cA 1) 270]).set k (h0, Sum.inr (6, [.int 0, .int 0, .ref q1, .ref q2, .ref q3, .ref q4, .ref q5, .int 0, .ref q6, .ref q7, .ref q8, .null, .int 0, .int 0, .int 0, .int 0, .int 0, .int 0, .null, .int 0, .int 0, .int 0, .int 0, .null, .null, .null, .null, .null, .null, .null]))) ++ [ct_ar q9 (cA 0) 270]).set k (h0, Sum.inr (6, [.int 0, .int 0, .ref q1, .ref q2, .ref q3, .ref q4, .ref q5, .int 0, .ref q6, .ref q7, .ref q8, .ref q9, .int 0, .int 0, .int 0, .int 0, .int 0, .int 0, .null, .int 0, .int 0, .int 0, .int 0, .null, .null, .null, .null, .null, .null, .null]))).set k (h0, Sum.inr (6, [.int 0, .int 0, .ref q1, .ref q2, .ref q3, .ref q4, .ref q5, .int 0, .ref q6, .ref q7, .ref q8, .ref q9, .int 0, .int (Int32.ofInt (-1)), .int 0, .int 0, .int 0, .int 0, .null, .int 0, .int 0, .int 0, .int 0, .null, .null, .null, .null, .null, .null, .null]))).set k (h0, Sum.inr (6, [.int 0, .int 0, .ref q1, .ref q2, .ref q3, .ref q4, .ref q5, .int 0, .ref q6, .ref q7, .ref q8, .ref q9, .int 0, .int (Int32.ofInt (-1)), .int (Int32.ofInt (-1)), .int 0, .int 0, .int 0, .null, .int 0, .int 0, .int 0, .int 0, .null, .null, .null, .null, .null, .null, .null]))).set k (h0, Sum.inr (6, [.int 0, .int 0, .ref q1, .ref q2, .ref q3, .ref q4, .ref q5, .int 0, .ref q6, .ref q7, .ref q8, .ref q9, .int 0, .int (Int32.ofInt (-1)), .int (Int32.ofInt (-1)), .int (Int32.ofInt (-1)), .int 0, .int 0, .null, .int 0, .int 0, .int 0, .int 0, .null, .null, .null, .null, .null, .null, .null]))).set k (h0, Sum.inr (6, [.int 0, .int 0, .ref q1, .ref q2, .ref q3, .ref q4, .ref q5, .int 0, .ref q6, .ref q7, .ref q8, .ref q9, .int 0, .int (Int32.ofInt (-1)), .int (Int32.ofInt (-1)), .int (Int32.ofInt (-1)), .int (Int32.ofInt (-1)), .int 0, .null, .int 0, .int 0, .int 0, .int 0, .null, .null, .null, .null, .null, .null, .null]))) ++ [ct_ar q10 (cA 0) 20]).set k (h0, Sum.inr (6, [.int 0, .int 0, .ref q1, .ref q2, .ref q3, .ref q4, .ref q5, .int 0, .ref q6, .ref q7, .ref q8, .ref q9, .int 0, .int (Int32.ofInt (-1)), .int (Int32.ofInt (-1)), .int (Int32.ofInt (-1)), .int (Int32.ofInt (-1)), .int 0, .ref q10, .int 0, .int 0, .int 0, .int 0, .null, .null, .null, .null, .null, .null, .null]))) ++ [ct_ar q11 (cA 0) 61]).set k (h0, Sum.inr (6, [.int 0, .int 0, .ref q1, .ref q2, .ref q3, .ref q4, .ref q5, .int 0, .ref q6, .ref q7, .ref q8, .ref q9, .int 0, .int (Int32.ofInt (-1)), .int (Int32.ofInt (-1)), .int (Int32.ofInt (-1)), .int (Int32.ofInt (-1)), .int 0, .ref q10, .int 0, .int 0, .int 0, .int 0, .ref q11, .null, .null, .null, .null, .null, .null]))) ++ [ct_ar q12 (cA 0) 61]).set k (h0, Sum.inr (6, [.int 0, .int 0, .ref q1, .ref q2, .ref q3, .ref q4, .ref q5, .int 0, .ref q6, .ref q7, .ref q8, .ref q9, .int 0, .int (Int32.ofInt (-1)), .int (Int32.ofInt (-1)), .int (Int32.ofInt (-1)), .int (Int32.ofInt (-1)), .int 0, .ref q10, .int 0, .int 0, .int 0, .int 0, .ref q11, .ref q12, .null, .null, .null, .null, .null]))) ++ [ct_ar q13 (cA 0) 60]).set k (h0, Sum.inr (6, [.int 0, .int 0, .ref q1, .ref q2, .ref q3, .ref q4, .ref q5, .int 0, .ref q6, .ref q7, .ref q8, .ref q9, .int 0, .int (Int32.ofInt (-1)), .int (Int32.ofInt (-1)), .int (Int32.ofInt (-1)), .int (Int32.ofInt (-1)), .int 0, .ref q10, .int 0, .int 0, .int 0, .int 0, .ref q11, .ref q12, .ref q13, .null, .null, .null, .null]))) ++ [ct_ar q14 (cA 0) 60]).set k (h0, Sum.inr (6, [.int 0, .int 0, .ref q1, .ref q2, .ref q3, .ref q4, .ref q5, .int 0, .ref q6, .ref q7, .ref q8, .ref q9, .int 0, .int (Int32.ofInt (-1)), .int (Int32.ofInt (-1)), .int (Int32.ofInt (-1)), .int (Int32.ofInt (-1)), .int 0, .ref q10, .int 0, .int 0, .int 0, .int 0, .ref q11, .ref q12, .ref q13, .ref q14, .null, .null, .null]))) ++ [ct_ar q15 (cA 0) 60]).set k (h0, Sum.inr (6, [.int 0, .int 0, .ref q1, .ref q2, .ref q3, .ref q4, .ref q5, .int 0, .ref q6, .ref q7, .ref q8, .ref q9, .int 0, .int (Int32.ofInt (-1)), .int (Int32.ofInt (-1)), .int (Int32.ofInt (-1)), .int (Int32.ofInt (-1)), .int 0, .ref q10, .int 0, .int 0, .int 0, .int 0, .ref q11, .ref q12, .ref q13, .ref q14, .ref q15, .null, .null]))) ++ [ct_ar q16 (cA 0) 60]).set k (h0, Sum.inr (6, [.int 0, .int 0, .ref q1, .ref q2, .ref q3, .ref q4, .ref q5, .int 0, .ref q6, .ref q7, .ref q8, .ref q9, .int 0, .int (Int32.ofInt (-1)), .int (Int32.ofInt (-1)), .int (Int32.ofInt (-1)), .int (Int32.ofInt (-1)), .int 0, .ref q10, .int 0, .int 0, .int 0, .int 0, .ref q11, .ref q12, .ref q13, .ref q14, .ref q15, .ref q16, .null])))) (k := k) (h0 := h0) (f := 29) (fs := [.int 0, .int 0, .ref q1, .ref q2, .ref q3, .ref q4, .ref q5, .int 0, .ref q6, .ref q7, .ref q8, .ref q9, .int 0, .int (Int32.ofInt (-1)), .int (Int32.ofInt (-1)), .int (Int32.ofInt (-1)), .int (Int32.ofInt (-1)), .int 0, .ref q10, .int 0, .int 0, .int 0, .int 0, .ref q11, .ref q12, .ref q13, .ref q14, .ref q15, .ref q16, .null]) (tk := 0) (idx := 72) (N' := 60) hE hx hb (by decide) hown hin hW0 hsz hg hP hD hS (lv_at hl 0 rfl) cn_6_d155 (fun z => lv_bipush hx hb cn_6_d156 (v := 60) rfl z) cn_6_d158 cn_6_d160 rfl rfl rfl aw_0 (by decide) rfl (by decide) (Nat.le_of_ble_eq_true rfl) (Nat.le_of_ble_eq_true rfl) (Nat.le_of_ble_eq_true rfl) (Nat.le_of_ble_eq_true rfl) rfl cn_6_l72 (fun _ => rfl) (fun _ => rfl) (fun q17 H locs hP hD hS => ?_)
  have hg := ct_g1 (y := ct_ar q17 (cA 0) 60) (z := (h0, Sum.inr (6, [.int 0, .int 0, .ref q1, .ref q2, .ref q3, .ref q4, .ref q5, .int 0, .ref q6, .ref q7, .ref q8, .ref q9, .int 0, .int (Int32.ofInt (-1)), .int (Int32.ofInt (-1)), .int (Int32.ofInt (-1)), .int (Int32.ofInt (-1)), .int 0, .ref q10, .int 0, .int 0, .int 0, .int 0, .ref q11, .ref q12, .ref q13, .ref q14, .ref q15, .ref q16, .ref q17]))) hg
  have hP : va_P (dC, dI) ab_cls ((((((((((((((((((((((((((((((((((((((ws ++ [ct_ar q1 (cA 0) 8]).set k (h0, Sum.inr (6, [.int 0, .int 0, .ref q1, .null, .null, .null, .null, .int 0, .null, .null, .null, .null, .int 0, .int 0, .int 0, .int 0, .int 0, .int 0, .null, .int 0, .int 0, .int 0, .int 0, .null, .null, .null, .null, .null, .null, .null]))) ++ [ct_ar q2 (cA 0) 8]).set k (h0, Sum.inr (6, [.int 0, .int 0, .ref q1, .ref q2, .null, .null, .null, .int 0, .null, .null, .null, .null, .int 0, .int 0, .int 0, .int 0, .int 0, .int 0, .null, .int 0, .int 0, .int 0, .int 0, .null, .null, .null, .null, .null, .null, .null]))) ++ [ct_ar q3 (cA 0) 32]).set k (h0, Sum.inr (6, [.int 0, .int 0, .ref q1, .ref q2, .ref q3, .null, .null, .int 0, .null, .null, .null, .null, .int 0, .int 0, .int 0, .int 0, .int 0, .int 0, .null, .int 0, .int 0, .int 0, .int 0, .null, .null, .null, .null, .null, .null, .null]))) ++ [ct_ar q4 (cA 1) 4]).set k (h0, Sum.inr (6, [.int 0, .int 0, .ref q1, .ref q2, .ref q3, .ref q4, .null, .int 0, .null, .null, .null, .null, .int 0, .int 0, .int 0, .int 0, .int 0, .int 0, .null, .int 0, .int 0, .int 0, .int 0, .null, .null, .null, .null, .null, .null, .null]))) ++ [ct_ar q5 (cA 1) 81]).set k (h0, Sum.inr (6, [.int 0, .int 0, .ref q1, .ref q2, .ref q3, .ref q4, .ref q5, .int 0, .null, .null, .null, .null, .int 0, .int 0, .int 0, .int 0, .int 0, .int 0, .null, .int 0, .int 0, .int 0, .int 0, .null, .null, .null, .null, .null, .null, .null]))) ++ [ct_ar q6 (cA 1) 13500]).set k (h0, Sum.inr (6, [.int 0, .int 0, .ref q1, .ref q2, .ref q3, .ref q4, .ref q5, .int 0, .ref q6, .null, .null, .null, .int 0, .int 0, .int 0, .int 0, .int 0, .int 0, .null, .int 0, .int 0, .int 0, .int 0, .null, .null, .null, .null, .null, .null, .null]))) ++ [ct_ar q7 (cA 0) 500]).set k (h0, Sum.inr (6, [.int 0, .int 0, .ref q1, .ref q2, .ref q3, .ref q4, .ref q5, .int 0, .ref q6, .ref q7, .null, .null, .int 0, .int 0, .int 0, .int 0, .int 0, .int 0, .null, .int 0, .int 0, .int 0, .int 0, .null, .null, .null, .null, .null, .null, .null]))) ++ [ct_ar q8 (cA 1) 270]).set k (h0, Sum.inr (6, [.int 0, .int 0, .ref q1, .ref q2, .ref q3, .ref q4, .ref q5, .int 0, .ref q6, .ref q7, .ref q8, .null, .int 0, .int 0, .int 0, .int 0, .int 0, .int 0, .null, .int 0, .int 0, .int 0, .int 0, .null, .null, .null, .null, .null, .null, .null]))) ++ [ct_ar q9 (cA 0) 270]).set k (h0, Sum.inr (6, [.int 0, .int 0, .ref q1, .ref q2, .ref q3, .ref q4, .ref q5, .int 0, .ref q6, .ref q7, .ref q8, .ref q9, .int 0, .int 0, .int 0, .int 0, .int 0, .int 0, .null, .int 0, .int 0, .int 0, .int 0, .null, .null, .null, .null, .null, .null, .null]))).set k (h0, Sum.inr (6, [.int 0, .int 0, .ref q1, .ref q2, .ref q3, .ref q4, .ref q5, .int 0, .ref q6, .ref q7, .ref q8, .ref q9, .int 0, .int (Int32.ofInt (-1)), .int 0, .int 0, .int 0, .int 0, .null, .int 0, .int 0, .int 0, .int 0, .null, .null, .null, .null, .null, .null, .null]))).set k (h0, Sum.inr (6, [.int 0, .int 0, .ref q1, .ref q2, .ref q3, .ref q4, .ref q5, .int 0, .ref q6, .ref q7, .ref q8, .ref q9, .int 0, .int (Int32.ofInt (-1)), .int (Int32.ofInt (-1)), .int 0, .int 0, .int 0, .null, .int 0, .int 0, .int 0, .int 0, .null, .null, .null, .null, .null, .null, .null]))).set k (h0, Sum.inr (6, [.int 0, .int 0, .ref q1, .ref q2, .ref q3, .ref q4, .ref q5, .int 0, .ref q6, .ref q7, .ref q8, .ref q9, .int 0, .int (Int32.ofInt (-1)), .int (Int32.ofInt (-1)), .int (Int32.ofInt (-1)), .int 0, .int 0, .null, .int 0, .int 0, .int 0, .int 0, .null, .null, .null, .null, .null, .null, .null]))).set k (h0, Sum.inr (6, [.int 0, .int 0, .ref q1, .ref q2, .ref q3, .ref q4, .ref q5, .int 0, .ref q6, .ref q7, .ref q8, .ref q9, .int 0, .int (Int32.ofInt (-1)), .int (Int32.ofInt (-1)), .int (Int32.ofInt (-1)), .int (Int32.ofInt (-1)), .int 0, .null, .int 0, .int 0, .int 0, .int 0, .null, .null, .null, .null, .null, .null, .null]))) ++ [ct_ar q10 (cA 0) 20]).set k (h0, Sum.inr (6, [.int 0, .int 0, .ref q1, .ref q2, .ref q3, .ref q4, .ref q5, .int 0, .ref q6, .ref q7, .ref q8, .ref q9, .int 0, .int (Int32.ofInt (-1)), .int (Int32.ofInt (-1)), .int (Int32.ofInt (-1)), .int (Int32.ofInt (-1)), .int 0, .ref q10, .int 0, .int 0, .int 0, .int 0, .null, .null, .null, .null, .null, .null, .null]))) ++ [ct_ar q11 (cA 0) 61]).set k (h0, Sum.inr (6, [.int 0, .int 0, .ref q1, .ref q2, .ref q3, .ref q4, .ref q5, .int 0, .ref q6, .ref q7, .ref q8, .ref q9, .int 0, .int (Int32.ofInt (-1)), .int (Int32.ofInt (-1)), .int (Int32.ofInt (-1)), .int (Int32.ofInt (-1)), .int 0, .ref q10, .int 0, .int 0, .int 0, .int 0, .ref q11, .null, .null, .null, .null, .null, .null]))) ++ [ct_ar q12 (cA 0) 61]).set k (h0, Sum.inr (6, [.int 0, .int 0, .ref q1, .ref q2, .ref q3, .ref q4, .ref q5, .int 0, .ref q6, .ref q7, .ref q8, .ref q9, .int 0, .int (Int32.ofInt (-1)), .int (Int32.ofInt (-1)), .int (Int32.ofInt (-1)), .int (Int32.ofInt (-1)), .int 0, .ref q10, .int 0, .int 0, .int 0, .int 0, .ref q11, .ref q12, .null, .null, .null, .null, .null]))) ++ [ct_ar q13 (cA 0) 60]).set k (h0, Sum.inr (6, [.int 0, .int 0, .ref q1, .ref q2, .ref q3, .ref q4, .ref q5, .int 0, .ref q6, .ref q7, .ref q8, .ref q9, .int 0, .int (Int32.ofInt (-1)), .int (Int32.ofInt (-1)), .int (Int32.ofInt (-1)), .int (Int32.ofInt (-1)), .int 0, .ref q10, .int 0, .int 0, .int 0, .int 0, .ref q11, .ref q12, .ref q13, .null, .null, .null, .null]))) ++ [ct_ar q14 (cA 0) 60]).set k (h0, Sum.inr (6, [.int 0, .int 0, .ref q1, .ref q2, .ref q3, .ref q4, .ref q5, .int 0, .ref q6, .ref q7, .ref q8, .ref q9, .int 0, .int (Int32.ofInt (-1)), .int (Int32.ofInt (-1)), .int (Int32.ofInt (-1)), .int (Int32.ofInt (-1)), .int 0, .ref q10, .int 0, .int 0, .int 0, .int 0, .ref q11, .ref q12, .ref q13, .ref q14, .null, .null, .null]))) ++ [ct_ar q15 (cA 0) 60]).set k (h0, Sum.inr (6, [.int 0, .int 0, .ref q1, .ref q2, .ref q3, .ref q4, .ref q5, .int 0, .ref q6, .ref q7, .ref q8, .ref q9, .int 0, .int (Int32.ofInt (-1)), .int (Int32.ofInt (-1)), .int (Int32.ofInt (-1)), .int (Int32.ofInt (-1)), .int 0, .ref q10, .int 0, .int 0, .int 0, .int 0, .ref q11, .ref q12, .ref q13, .ref q14, .ref q15, .null, .null]))) ++ [ct_ar q16 (cA 0) 60]).set k (h0, Sum.inr (6, [.int 0, .int 0, .ref q1, .ref q2, .ref q3, .ref q4, .ref q5, .int 0, .ref q6, .ref q7, .ref q8, .ref q9, .int 0, .int (Int32.ofInt (-1)), .int (Int32.ofInt (-1)), .int (Int32.ofInt (-1)), .int (Int32.ofInt (-1)), .int 0, .ref q10, .int 0, .int 0, .int 0, .int 0, .ref q11, .ref q12, .ref q13, .ref q14, .ref q15, .ref q16, .null]))) ++ [ct_ar q17 (cA 0) 60]).set k (h0, Sum.inr (6, [.int 0, .int 0, .ref q1, .ref q2, .ref q3, .ref q4, .ref q5, .int 0, .ref q6, .ref q7, .ref q8, .ref q9, .int 0, .int (Int32.ofInt (-1)), .int (Int32.ofInt (-1)), .int (Int32.ofInt (-1)), .int (Int32.ofInt (-1)), .int 0, .ref q10, .int 0, .int 0, .int 0, .int 0, .ref q11, .ref q12, .ref q13, .ref q14, .ref q15, .ref q16, .ref q17]))) H := hP
  have hD : va_D (fun q => s0.heap.size ≤ q) ((((((((((((((((((((((((((((((((((((((ws ++ [ct_ar q1 (cA 0) 8]).set k (h0, Sum.inr (6, [.int 0, .int 0, .ref q1, .null, .null, .null, .null, .int 0, .null, .null, .null, .null, .int 0, .int 0, .int 0, .int 0, .int 0, .int 0, .null, .int 0, .int 0, .int 0, .int 0, .null, .null, .null, .null, .null, .null, .null]))) ++ [ct_ar q2 (cA 0) 8]).set k (h0, Sum.inr (6, [.int 0, .int 0, .ref q1, .ref q2, .null, .null, .null, .int 0, .null, .null, .null, .null, .int 0, .int 0, .int 0, .int 0, .int 0, .int 0, .null, .int 0, .int 0, .int 0, .int 0, .null, .null, .null, .null, .null, .null, .null]))) ++ [ct_ar q3 (cA 0) 32]).set k (h0, Sum.inr (6, [.int 0, .int 0, .ref q1, .ref q2, .ref q3, .null, .null, .int 0, .null, .null, .null, .null, .int 0, .int 0, .int 0, .int 0, .int 0, .int 0, .null, .int 0, .int 0, .int 0, .int 0, .null, .null, .null, .null, .null, .null, .null]))) ++ [ct_ar q4 (cA 1) 4]).set k (h0, Sum.inr (6, [.int 0, .int 0, .ref q1, .ref q2, .ref q3, .ref q4, .null, .int 0, .null, .null, .null, .null, .int 0, .int 0, .int 0, .int 0, .int 0, .int 0, .null, .int 0, .int 0, .int 0, .int 0, .null, .null, .null, .null, .null, .null, .null]))) ++ [ct_ar q5 (cA 1) 81]).set k (h0, Sum.inr (6, [.int 0, .int 0, .ref q1, .ref q2, .ref q3, .ref q4, .ref q5, .int 0, .null, .null, .null, .null, .int 0, .int 0, .int 0, .int 0, .int 0, .int 0, .null, .int 0, .int 0, .int 0, .int 0, .null, .null, .null, .null, .null, .null, .null]))) ++ [ct_ar q6 (cA 1) 13500]).set k (h0, Sum.inr (6, [.int 0, .int 0, .ref q1, .ref q2, .ref q3, .ref q4, .ref q5, .int 0, .ref q6, .null, .null, .null, .int 0, .int 0, .int 0, .int 0, .int 0, .int 0, .null, .int 0, .int 0, .int 0, .int 0, .null, .null, .null, .null, .null, .null, .null]))) ++ [ct_ar q7 (cA 0) 500]).set k (h0, Sum.inr (6, [.int 0, .int 0, .ref q1, .ref q2, .ref q3, .ref q4, .ref q5, .int 0, .ref q6, .ref q7, .null, .null, .int 0, .int 0, .int 0, .int 0, .int 0, .int 0, .null, .int 0, .int 0, .int 0, .int 0, .null, .null, .null, .null, .null, .null, .null]))) ++ [ct_ar q8 (cA 1) 270]).set k (h0, Sum.inr (6, [.int 0, .int 0, .ref q1, .ref q2, .ref q3, .ref q4, .ref q5, .int 0, .ref q6, .ref q7, .ref q8, .null, .int 0, .int 0, .int 0, .int 0, .int 0, .int 0, .null, .int 0, .int 0, .int 0, .int 0, .null, .null, .null, .null, .null, .null, .null]))) ++ [ct_ar q9 (cA 0) 270]).set k (h0, Sum.inr (6, [.int 0, .int 0, .ref q1, .ref q2, .ref q3, .ref q4, .ref q5, .int 0, .ref q6, .ref q7, .ref q8, .ref q9, .int 0, .int 0, .int 0, .int 0, .int 0, .int 0, .null, .int 0, .int 0, .int 0, .int 0, .null, .null, .null, .null, .null, .null, .null]))).set k (h0, Sum.inr (6, [.int 0, .int 0, .ref q1, .ref q2, .ref q3, .ref q4, .ref q5, .int 0, .ref q6, .ref q7, .ref q8, .ref q9, .int 0, .int (Int32.ofInt (-1)), .int 0, .int 0, .int 0, .int 0, .null, .int 0, .int 0, .int 0, .int 0, .null, .null, .null, .null, .null, .null, .null]))).set k (h0, Sum.inr (6, [.int 0, .int 0, .ref q1, .ref q2, .ref q3, .ref q4, .ref q5, .int 0, .ref q6, .ref q7, .ref q8, .ref q9, .int 0, .int (Int32.ofInt (-1)), .int (Int32.ofInt (-1)), .int 0, .int 0, .int 0, .null, .int 0, .int 0, .int 0, .int 0, .null, .null, .null, .null, .null, .null, .null]))).set k (h0, Sum.inr (6, [.int 0, .int 0, .ref q1, .ref q2, .ref q3, .ref q4, .ref q5, .int 0, .ref q6, .ref q7, .ref q8, .ref q9, .int 0, .int (Int32.ofInt (-1)), .int (Int32.ofInt (-1)), .int (Int32.ofInt (-1)), .int 0, .int 0, .null, .int 0, .int 0, .int 0, .int 0, .null, .null, .null, .null, .null, .null, .null]))).set k (h0, Sum.inr (6, [.int 0, .int 0, .ref q1, .ref q2, .ref q3, .ref q4, .ref q5, .int 0, .ref q6, .ref q7, .ref q8, .ref q9, .int 0, .int (Int32.ofInt (-1)), .int (Int32.ofInt (-1)), .int (Int32.ofInt (-1)), .int (Int32.ofInt (-1)), .int 0, .null, .int 0, .int 0, .int 0, .int 0, .null, .null, .null, .null, .null, .null, .null]))) ++ [ct_ar q10 (cA 0) 20]).set k (h0, Sum.inr (6, [.int 0, .int 0, .ref q1, .ref q2, .ref q3, .ref q4, .ref q5, .int 0, .ref q6, .ref q7, .ref q8, .ref q9, .int 0, .int (Int32.ofInt (-1)), .int (Int32.ofInt (-1)), .int (Int32.ofInt (-1)), .int (Int32.ofInt (-1)), .int 0, .ref q10, .int 0, .int 0, .int 0, .int 0, .null, .null, .null, .null, .null, .null, .null]))) ++ [ct_ar q11 (cA 0) 61]).set k (h0, Sum.inr (6, [.int 0, .int 0, .ref q1, .ref q2, .ref q3, .ref q4, .ref q5, .int 0, .ref q6, .ref q7, .ref q8, .ref q9, .int 0, .int (Int32.ofInt (-1)), .int (Int32.ofInt (-1)), .int (Int32.ofInt (-1)), .int (Int32.ofInt (-1)), .int 0, .ref q10, .int 0, .int 0, .int 0, .int 0, .ref q11, .null, .null, .null, .null, .null, .null]))) ++ [ct_ar q12 (cA 0) 61]).set k (h0, Sum.inr (6, [.int 0, .int 0, .ref q1, .ref q2, .ref q3, .ref q4, .ref q5, .int 0, .ref q6, .ref q7, .ref q8, .ref q9, .int 0, .int (Int32.ofInt (-1)), .int (Int32.ofInt (-1)), .int (Int32.ofInt (-1)), .int (Int32.ofInt (-1)), .int 0, .ref q10, .int 0, .int 0, .int 0, .int 0, .ref q11, .ref q12, .null, .null, .null, .null, .null]))) ++ [ct_ar q13 (cA 0) 60]).set k (h0, Sum.inr (6, [.int 0, .int 0, .ref q1, .ref q2, .ref q3, .ref q4, .ref q5, .int 0, .ref q6, .ref q7, .ref q8, .ref q9, .int 0, .int (Int32.ofInt (-1)), .int (Int32.ofInt (-1)), .int (Int32.ofInt (-1)), .int (Int32.ofInt (-1)), .int 0, .ref q10, .int 0, .int 0, .int 0, .int 0, .ref q11, .ref q12, .ref q13, .null, .null, .null, .null]))) ++ [ct_ar q14 (cA 0) 60]).set k (h0, Sum.inr (6, [.int 0, .int 0, .ref q1, .ref q2, .ref q3, .ref q4, .ref q5, .int 0, .ref q6, .ref q7, .ref q8, .ref q9, .int 0, .int (Int32.ofInt (-1)), .int (Int32.ofInt (-1)), .int (Int32.ofInt (-1)), .int (Int32.ofInt (-1)), .int 0, .ref q10, .int 0, .int 0, .int 0, .int 0, .ref q11, .ref q12, .ref q13, .ref q14, .null, .null, .null]))) ++ [ct_ar q15 (cA 0) 60]).set k (h0, Sum.inr (6, [.int 0, .int 0, .ref q1, .ref q2, .ref q3, .ref q4, .ref q5, .int 0, .ref q6, .ref q7, .ref q8, .ref q9, .int 0, .int (Int32.ofInt (-1)), .int (Int32.ofInt (-1)), .int (Int32.ofInt (-1)), .int (Int32.ofInt (-1)), .int 0, .ref q10, .int 0, .int 0, .int 0, .int 0, .ref q11, .ref q12, .ref q13, .ref q14, .ref q15, .null, .null]))) ++ [ct_ar q16 (cA 0) 60]).set k (h0, Sum.inr (6, [.int 0, .int 0, .ref q1, .ref q2, .ref q3, .ref q4, .ref q5, .int 0, .ref q6, .ref q7, .ref q8, .ref q9, .int 0, .int (Int32.ofInt (-1)), .int (Int32.ofInt (-1)), .int (Int32.ofInt (-1)), .int (Int32.ofInt (-1)), .int 0, .ref q10, .int 0, .int 0, .int 0, .int 0, .ref q11, .ref q12, .ref q13, .ref q14, .ref q15, .ref q16, .null]))) ++ [ct_ar q17 (cA 0) 60]).set k (h0, Sum.inr (6, [.int 0, .int 0, .ref q1, .ref q2, .ref q3, .ref q4, .ref q5, .int 0, .ref q6, .ref q7, .ref q8, .ref q9, .int 0, .int (Int32.ofInt (-1)), .int (Int32.ofInt (-1)), .int (Int32.ofInt (-1)), .int (Int32.ofInt (-1)), .int 0, .ref q10, .int 0, .int 0, .int 0, .int 0, .ref q11, .ref q12, .ref q13, .ref q14, .ref q15, .ref q16, .ref q17]))) := hD
  exact W.vret hx hb hr (fun t ht hW => ⟨rfl, ⟨_, ⟨q1, q2, q3, q4, q5, q6, q7, q8, q9, q10, q11, q12, q13, q14, q15, q16, q17, rfl⟩, by rw [ht]; exact hP, hD⟩, hS.F ht⟩) hS.2.2 cn_6_d163
end Ctors
end
section
/-! Arrays.fill of an array of ints, over any world. -/
section Fill
variable {l : Launch} {s0 : State} {a0 : Array Value} {dC : Nat → ClassId} {dI : Nat → Nat → Nat} {cA : Nat → ClassId}
abbrev fl_f (f : Nat → Int32) (t : Nat) (v : Int32) : Nat → Int32 := fun i => if i < t then v else f i
abbrev fl_w (ws : va_W) (k h0 : Nat) (c : ClassId) (n : Nat) (f : Nat → Int32) (t : Nat) (v : Int32) : va_W := ws.set k (h0, Sum.inl (c, (n, Sum.inl (fl_f f t v))))
theorem fl_upd (f : Nat → Int32) (t : Nat) (v : Int32) : upd (fl_f f t v) t v = fl_f f (t + 1) v := by
  funext i
  unfold upd
  by_cases e : i = t
  · subst e
    rw [if_pos rfl]
    exact (if_pos (Nat.lt_succ_self i)).symm
  · rw [if_neg e]
    by_cases h : i < t
    · exact (if_pos h).trans (if_pos (show i < t + 1 by omega)).symm
    · exact (if_neg h).trans (if_neg (show ¬ i < t + 1 by omega)).symm
theorem fl_set (ws : va_W) (k h0 : Nat) (c : ClassId) (n : Nat) (f : Nat → Int32) (t : Nat) (v : Int32) : (fl_w ws k h0 c n f t v).set k (h0, Sum.inl (c, (n, Sum.inl (fl_f f (t + 1) v)))) = fl_w ws k h0 c n f (t + 1) v := List.set_set ..
theorem fl_d0 : decode prog_18_method_103_code 0 = .ok (.iconst 0, 1) := by decide +kernel
theorem fl_d1 : decode prog_18_method_103_code 1 = .ok (.istore_n 2, 1) := by decide +kernel
theorem fl_d2 : decode prog_18_method_103_code 2 = .ok (.aload_n 0, 1) := by decide +kernel
theorem fl_d3 : decode prog_18_method_103_code 3 = .ok (.arraylength, 1) := by decide +kernel
theorem fl_d4 : decode prog_18_method_103_code 4 = .ok (.istore_n 3, 1) := by decide +kernel
theorem fl_d5 : decode prog_18_method_103_code 5 = .ok (.iload_n 2, 1) := by decide +kernel
theorem fl_d6 : decode prog_18_method_103_code 6 = .ok (.iload_n 3, 1) := by decide +kernel
theorem fl_d7 : decode prog_18_method_103_code 7 = .ok (.if_icmp .ge 13, 3) := by decide +kernel
theorem fl_d10 : decode prog_18_method_103_code 10 = .ok (.aload_n 0, 1) := by decide +kernel
theorem fl_d11 : decode prog_18_method_103_code 11 = .ok (.iload_n 2, 1) := by decide +kernel
theorem fl_d12 : decode prog_18_method_103_code 12 = .ok (.iload_n 1, 1) := by decide +kernel
theorem fl_d13 : decode prog_18_method_103_code 13 = .ok (.iastore, 1) := by decide +kernel
theorem fl_d14 : decode prog_18_method_103_code 14 = .ok (.iinc 2 1, 3) := by decide +kernel
theorem fl_d17 : decode prog_18_method_103_code 17 = .ok (.goto (-12), 3) := by decide +kernel
theorem fl_d20 : decode prog_18_method_103_code 20 = .ok (.return_, 1) := by decide +kernel
theorem fl_k : Cond.code ⟨"java/util/Arrays", "fill", "([II)V"⟩ prog_18_method_103_code 4 none ∈ lw_tbl := List.mem_append_right _ (List.mem_of_getElem? (i := 105) (by decide +kernel))
theorem fl_loop (hE : ct_E s0 a0 dC dI cA) {p : Program} {e : Env} {R : Room} {s : State} {m : MethodId} {args : Array Value} {below : List Frame} {meth : Method} {c : Code} {cells slots : Nat} {Q : State → Prop} (hx : p.tables.exec = Jvm.exec) (hb : c.code = prog_18_method_103_code) (hW0 : s0.WarmedH s.vm)
    (ws : va_W) (k h0 n : Nat) (f : Nat → Int32) (v : Int32) (hn : n < 2 ^ 31) (hk : k < ws.length)
    (kk : ∀ (H : Heap) (locs : List Loc) (ls : Array Slot), va_P (dC, dI) ab_cls (fl_w ws k h0 (cA 0) n f n v) H → va_D (fun q => s0.heap.size ≤ q) (fl_w ws k h0 (cA 0) n f n v) → va_S (fun q => s0.heap.size ≤ q) s.heap H locs → W p l e R s m args below meth c H locs cells slots Q (F0 m 20 ls [])) :
    ∀ (d t : Nat) (H : Heap) (locs : List Loc) (ls : Array Slot), t + d = n → lv_has ls 4 [(0, .ref h0), (1, .int v), (2, .int (nI t)), (3, .int (nI n))] → va_P (dC, dI) ab_cls (fl_w ws k h0 (cA 0) n f t v) H → va_D (fun q => s0.heap.size ≤ q) (fl_w ws k h0 (cA 0) n f t v) → va_S (fun q => s0.heap.size ≤ q) s.heap H locs →
      W p l e R s m args below meth c H locs cells slots Q (F0 m 5 ls []) := by
  intro d
  induction d with
  | zero =>
    intro t H locs ls ht hl hP hD hS
    have e : t = n := by omega
    subst e
    refine lv_iload_n hx hb fl_d5 rfl (lv_at hl 2 rfl) (lv_iload_n hx hb fl_d6 rfl (lv_at hl 3 rfl) ?_)
    exact lv_icmp_ge (tgt := 20) hx hb fl_d7 rfl (fun _ => kk H locs ls hP hD hS) (fun z => absurd (Int32.le_refl _) z)
  | succ d ih =>
    intro t H locs ls ht hl hP hD hS
    refine lv_iload_n hx hb fl_d5 rfl (lv_at hl 2 rfl) (lv_iload_n hx hb fl_d6 rfl (lv_at hl 3 rfl) ?_)
    refine lv_icmp_ge (tgt := 20) hx hb fl_d7 rfl (fun z => absurd z (nI_ge (by omega) hn)) (fun _ => ?_)
    refine lv_aload_n hx hb fl_d10 rfl (lv_at hl 0 rfl) (lv_iload_n hx hb fl_d11 rfl (lv_at hl 2 rfl) (lv_iload_n hx hb fl_d12 rfl (lv_at hl 1 rfl) ?_))
    have hg : (fl_w ws k h0 (cA 0) n f t v)[k]? = some (h0, Sum.inl (cA 0, (n, Sum.inl (fl_f f t v)))) := by
      rw [List.getElem?_set, if_pos rfl, if_pos hk]
    refine va_iast hx hb (hE.K hW0) hP hD hS k 0 hg rfl (vp_in_nI (by omega) hn) fl_d13 (fun H1 locs1 p1 d1 s1 => ?_)
    rw [nI_clamp (by omega), fl_upd, fl_set] at p1 d1
    refine lv_iinc (v := nI (t + 1)) hx hb fl_d14 hl (k := 2) rfl (nI_1 t) (by decide) rfl (fun ls' hl' => ?_)
    refine lv_goto (tgt := 5) hx hb fl_d17 rfl ?_
    exact ih (t + 1) H1 locs1 ls' (by omega) (lv_sub hl' [1, 2, 0, 3] rfl) p1 d1 s1
theorem cn_fill (hE : ct_E s0 a0 dC dI cA) (ws : va_W) (k h0 n : Nat) (f : Nat → Int32) (v : Int32) (hn : n < 2 ^ 31) (hg : ws[k]? = some (h0, Sum.inl (cA 0, (n, Sum.inl f)))) :
    Met l ⟨"java/util/Arrays", "fill", "([II)V"⟩ [Cond.code ⟨"java/util/Arrays", "fill", "([II)V"⟩ prog_18_method_103_code 4 none] { frames := 0, cells := 0, slots := 0, locals := 0 } (ct_P s0 dC dI [.ref h0, .int v] ws) (ct_Q s0 dC dI (fun ws' => ws' = fl_w ws k h0 (cA 0) n f n v)) 0 0 (fun q => s0.heap.size ≤ q) := by
  refine Met.ofW (cc := prog_18_method_103_code) (maxL := 4) (ret := none) (by decide) rfl ?_
  intro p e s m args below meth c s₁ B hml hv
  obtain ⟨rfl, hW0, hsz, hP, hD⟩ := hv
  have hx := B.exec
  have hb := B.bytes
  have hr := B.returns
  have hlocks := B.notSynchronized
  have hS : va_S (fun q => s0.heap.size ≤ q) s.heap s.heap [] := va_S.rf
  have hl := lv_entry ([.ref h0, .int v]) (n := 4) (Nat.le_of_ble_eq_true rfl)
  rw [lg_entry_eq]
  generalize (lg_sl ([.ref h0, .int v]) ++ List.replicate (4 - (lg_sl ([.ref h0, .int v])).length) Slot.unset).toArray = ls at hl ⊢
  have hl : lv_has ls 4 [(0, .ref h0), (1, .int v)] := hl
  refine lv_iconst (v := 0) hx hb fl_d0 rfl (lv_istore_n hx hb fl_d1 rfl hl (by decide) rfl (fun ls hl => ?_))
  refine lv_aload_n hx hb fl_d2 rfl (lv_at hl 1 rfl) ?_
  refine va_alen hx hb (hE.K hW0) hP k 0 hg rfl rfl fl_d3 ?_
  refine lv_istore_n hx hb fl_d4 rfl hl (by decide) rfl (fun ls hl => ?_)
  have e0 : fl_w ws k h0 (cA 0) n f 0 v = ws := by
    have e1 : fl_f f 0 v = f := by
      funext i
      exact if_neg (Nat.not_lt_zero i)
    show ws.set k (h0, Sum.inl (cA 0, (n, Sum.inl (fl_f f 0 v)))) = ws
    rw [e1]
    obtain ⟨hk, he⟩ := List.getElem?_eq_some_iff.mp hg
    rw [← he]
    exact List.set_getElem_self hk
  refine fl_loop (l := l) hE hx hb hW0 ws k h0 n f v hn (List.getElem?_eq_some_iff.mp hg).1 ?_ n 0 s.heap [] ls (Nat.zero_add n) (lv_sub hl [2, 3, 1, 0] rfl) (by rw [e0]; exact hP) (by rw [e0]; exact hD) hS
  intro H locs ls hP hD hS
  exact W.vret hx hb hr (fun t ht hW => ⟨rfl, ⟨_, rfl, by rw [ht]; exact hP, hD⟩, hS.F ht⟩) hS.2.2 fl_d20
end Fill
end
section
/-! The constructors of the checker and of the class itself. By program (wip/gen/ctor2.py). -/
section Ctors2
variable {l : Launch} {s0 : State} {a0 : Array Value} {dC : Nat → ClassId} {dI : Nat → Nat → Nat} {cA : Nat → ClassId}
theorem cn_2_d0 : decode prog_4_method_1_code 0 = .ok (.aload_n 0, 1) := by decide +kernel
theorem cn_2_d1 : decode prog_4_method_1_code 1 = .ok (.invokespecial 3, 3) := by decide +kernel
theorem cn_2_d4 : decode prog_4_method_1_code 4 = .ok (.aload_n 0, 1) := by decide +kernel
theorem cn_2_d5 : decode prog_4_method_1_code 5 = .ok (.iconst 4, 1) := by decide +kernel
theorem cn_2_d6 : decode prog_4_method_1_code 6 = .ok (.newarray .int, 2) := by decide +kernel
theorem cn_2_d8 : decode prog_4_method_1_code 8 = .ok (.putfield 11, 3) := by decide +kernel
theorem cn_2_d11 : decode prog_4_method_1_code 11 = .ok (.aload_n 0, 1) := by decide +kernel
theorem cn_2_d12 : decode prog_4_method_1_code 12 = .ok (.aload_n 1, 1) := by decide +kernel
theorem cn_2_d13 : decode prog_4_method_1_code 13 = .ok (.putfield 15, 3) := by decide +kernel
theorem cn_2_d16 : decode prog_4_method_1_code 16 = .ok (.aload_n 0, 1) := by decide +kernel
theorem cn_2_d17 : decode prog_4_method_1_code 17 = .ok (.aload_n 2, 1) := by decide +kernel
theorem cn_2_d18 : decode prog_4_method_1_code 18 = .ok (.putfield 19, 3) := by decide +kernel
theorem cn_2_d21 : decode prog_4_method_1_code 21 = .ok (.aload_n 0, 1) := by decide +kernel
theorem cn_2_d22 : decode prog_4_method_1_code 22 = .ok (.getfield 11, 3) := by decide +kernel
theorem cn_2_d25 : decode prog_4_method_1_code 25 = .ok (.iconst (-1), 1) := by decide +kernel
theorem cn_2_d26 : decode prog_4_method_1_code 26 = .ok (.invokestatic 23, 3) := by decide +kernel
theorem cn_2_d29 : decode prog_4_method_1_code 29 = .ok (.return_, 1) := by decide +kernel
theorem cn_2_o : Cond.methodLink (ab_cs 2) 3 objectInit ∈ lw_tbl := List.mem_append_right _ (List.mem_of_getElem? (i := 102) (by decide +kernel))
theorem cn_2_l11 : Cond.fieldLink (ab_cs 2) 11 (ab_cs 2) (ab_T 2 2).2.1 (ab_T 2 2).2.2.1 ∈ lw_tbl := List.mem_append_right _ (List.mem_of_getElem? (i := 108) (by decide +kernel))
theorem cn_2_l15 : Cond.fieldLink (ab_cs 2) 15 (ab_cs 2) (ab_T 2 0).2.1 (ab_T 2 0).2.2.1 ∈ lw_tbl := List.mem_append_right _ (List.mem_of_getElem? (i := 106) (by decide +kernel))
theorem cn_2_l19 : Cond.fieldLink (ab_cs 2) 19 (ab_cs 2) (ab_T 2 1).2.1 (ab_T 2 1).2.2.1 ∈ lw_tbl := List.mem_append_right _ (List.mem_of_getElem? (i := 107) (by decide +kernel))
theorem fl_m : Cond.methodLink (ab_cs 2) 23 ⟨"java/util/Arrays", "fill", "([II)V"⟩ ∈ lw_tbl := List.mem_append_right _ (List.mem_of_getElem? (i := 103) (by decide +kernel))
theorem fl_s : Cond.static ⟨"java/util/Arrays", "fill", "([II)V"⟩ ∈ lw_tbl := List.mem_append_right _ (List.mem_of_getElem? (i := 104) (by decide +kernel))
theorem fl_i : Cond.initialized "java/util/Arrays" ∈ lw_tbl := List.mem_append_right _ (List.mem_of_getElem? (i := 6) (by decide +kernel))
theorem cn_2_k : Cond.code ⟨"ParserProof$Checker", "<init>", "(LParserProof$Grammar;LParserProof$Automaton;)V"⟩ prog_4_method_1_code 3 none ∈ lw_tbl := List.mem_append_right _ (List.mem_of_getElem? (i := 101) (by decide +kernel))
theorem ct_gl {L : va_W} {k : Nat} {x y z : Nat × va_E} (h : L[k]? = some x) : ((L ++ [y]).set k z)[L.length]? = some y := by
  have hk := (List.getElem?_eq_some_iff.mp h).1
  rw [List.getElem?_set, if_neg (by omega), List.getElem?_append_right (Nat.le_refl _), Nat.sub_self]
  rfl
theorem ct_gx {L : va_W} {k j : Nat} {y z : Nat × va_E} (hk : k ≠ j) (h : L[j]? = some y) : (L.set k z)[j]? = some y := by
  rw [List.getElem?_set, if_neg hk]
  exact h
theorem ct_sig {d : String} (n : Nat) (h : (parseMethodDescriptor d).map (fun d => d.parameters.length) = some n) : ∀ sig, parseMethodDescriptor d = some sig → n = sig.parameters.length := by
  intro sig hs
  rw [hs] at h
  exact (Option.some.inj h).symm
set_option maxHeartbeats 4000000 in
set_option maxRecDepth 100000 in
theorem cn_2 (hE : ct_E s0 a0 dC dI cA) (ws : va_W) (k h0 : Nat) (r1 r2 : Nat) (hg : ws[k]? = some (h0, Sum.inr (2, [.null, .null, .null]))) : Met l ⟨"ParserProof$Checker", "<init>", "(LParserProof$Grammar;LParserProof$Automaton;)V"⟩ [Cond.code ⟨"ParserProof$Checker", "<init>", "(LParserProof$Grammar;LParserProof$Automaton;)V"⟩ prog_4_method_1_code 3 none] { frames := 1, cells := 1, slots := 4, locals := 23 } (ct_P s0 dC dI [.ref h0, .ref r1, .ref r2] ws) (ct_Q s0 dC dI (fun ws' => ∃ q1 : Nat, ws' = (fl_w ((((ws ++ [ct_ar q1 (cA 0) 4]).set k (h0, Sum.inr (2, [.null, .null, .ref q1]))).set k (h0, Sum.inr (2, [.ref r1, .null, .ref q1]))).set k (h0, Sum.inr (2, [.ref r1, .ref r2, .ref q1]))) ws.length q1 (cA 0) 4 (fun _ => 0) 4 (-1)))) 1 4 (fun q => s0.heap.size ≤ q) := by
  have hk : k ≠ ws.length := by
    have := (List.getElem?_eq_some_iff.mp hg).1
    omega
  refine Met.ofW (cc := prog_4_method_1_code) (maxL := 3) (ret := none) (by decide) rfl ?_
  intro p e s m args below meth c s₁ B hml hv
  obtain ⟨rfl, hW0, hsz, hP, hD⟩ := hv
  have hx := B.exec
  have hb := B.bytes
  have hr := B.returns
  have hown : s.vm.findClass (ab_cs 2) = some m.cls := findClass_of_methodNamed B.named
  have hlocks := B.notSynchronized
  have hin : meth.name = "<init>" := (name_of_methodNamed B.named B.method).1
  have hS : va_S (fun q => s0.heap.size ≤ q) s.heap s.heap [] := va_S.rf
  have hl := lv_entry ([.ref h0, .ref r1, .ref r2]) (n := 3) (Nat.le_of_ble_eq_true rfl)
  rw [lg_entry_eq]
  generalize (lg_sl ([.ref h0, .ref r1, .ref r2]) ++ List.replicate (3 - (lg_sl ([.ref h0, .ref r1, .ref r2])).length) Slot.unset).toArray = ls at hl ⊢
  have hl : lv_has ls 3 [(0, .ref h0), (1, .ref r1), (2, .ref r2)] := hl
  refine lv_aload_n hx hb cn_2_d0 rfl (lv_at hl 0 rfl) ?_
  refine W.objInit hx hb hown (hE.word cn_2_o rfl hW0 _) (hE.word ow_i rfl hW0 _) (hE.word ow_c rfl hW0 _) rfl (by rw [hml]; exact hl.1) rfl cn_2_d1 (Nat.le_of_ble_eq_true rfl) (Nat.le_of_ble_eq_true rfl) ?_
  refine W.eq (g2 := F0 m 4 ls []) rfl ?_
  refine ct_arr (ws := ws) (k := k) (h0 := h0) (f := 2) (fs := [.null, .null, .null]) (tk := 0) (idx := 11) (N' := 4) hE hx hb (by decide) hown hin hW0 hsz hg hP hD hS (lv_at hl 0 rfl) cn_2_d4 (fun z => lv_iconst hx hb cn_2_d5 (v := 4) rfl z) cn_2_d6 cn_2_d8 rfl rfl rfl aw_0 (by decide) rfl (by decide) (Nat.le_of_ble_eq_true rfl) (Nat.le_of_ble_eq_true rfl) (Nat.le_of_ble_eq_true rfl) (Nat.le_of_ble_eq_true rfl) rfl cn_2_l11 (fun _ => rfl) (fun _ => rfl) (fun q1 H locs hP hD hS => ?_)
  have hq : ((ws ++ [ct_ar q1 (cA 0) 4]).set k (h0, Sum.inr (2, [.null, .null, .ref q1])))[ws.length]? = some (ct_ar q1 (cA 0) 4) := ct_gl hg
  have hg := ct_g1 (y := ct_ar q1 (cA 0) 4) (z := (h0, Sum.inr (2, [.null, .null, .ref q1]))) hg
  have hP : va_P (dC, dI) ab_cls ((ws ++ [ct_ar q1 (cA 0) 4]).set k (h0, Sum.inr (2, [.null, .null, .ref q1]))) H := hP
  have hD : va_D (fun q => s0.heap.size ≤ q) ((ws ++ [ct_ar q1 (cA 0) 4]).set k (h0, Sum.inr (2, [.null, .null, .ref q1]))) := hD
  refine ct_ref (ws := ((ws ++ [ct_ar q1 (cA 0) 4]).set k (h0, Sum.inr (2, [.null, .null, .ref q1])))) (k := k) (h0 := h0) (f := 0) (r := r1) (fs := [.null, .null, .ref q1]) (j' := 1) (idx := 15) hE hx hb (by decide) hown hin hW0 hg hP hD hS (lv_at hl 0 rfl) rfl (lv_at hl 1 rfl) cn_2_d11 cn_2_d12 cn_2_d13 (Nat.le_of_ble_eq_true rfl) (Nat.le_of_ble_eq_true rfl) rfl cn_2_l15 (fun _ => rfl) (fun _ => rfl) (fun H locs hP hD hS => ?_)
  have hq := ct_gx (z := (h0, Sum.inr (2, [.ref r1, .null, .ref q1]))) hk hq
  have hg := ct_g0 (z := (h0, Sum.inr (2, [.ref r1, .null, .ref q1]))) hg
  have hP : va_P (dC, dI) ab_cls (((ws ++ [ct_ar q1 (cA 0) 4]).set k (h0, Sum.inr (2, [.null, .null, .ref q1]))).set k (h0, Sum.inr (2, [.ref r1, .null, .ref q1]))) H := hP
  have hD : va_D (fun q => s0.heap.size ≤ q) (((ws ++ [ct_ar q1 (cA 0) 4]).set k (h0, Sum.inr (2, [.null, .null, .ref q1]))).set k (h0, Sum.inr (2, [.ref r1, .null, .ref q1]))) := hD
  refine ct_ref (ws := (((ws ++ [ct_ar q1 (cA 0) 4]).set k (h0, Sum.inr (2, [.null, .null, .ref q1]))).set k (h0, Sum.inr (2, [.ref r1, .null, .ref q1])))) (k := k) (h0 := h0) (f := 1) (r := r2) (fs := [.ref r1, .null, .ref q1]) (j' := 2) (idx := 19) hE hx hb (by decide) hown hin hW0 hg hP hD hS (lv_at hl 0 rfl) rfl (lv_at hl 2 rfl) cn_2_d16 cn_2_d17 cn_2_d18 (Nat.le_of_ble_eq_true rfl) (Nat.le_of_ble_eq_true rfl) rfl cn_2_l19 (fun _ => rfl) (fun _ => rfl) (fun H locs hP hD hS => ?_)
  have hq := ct_gx (z := (h0, Sum.inr (2, [.ref r1, .ref r2, .ref q1]))) hk hq
  have hg := ct_g0 (z := (h0, Sum.inr (2, [.ref r1, .ref r2, .ref q1]))) hg
  have hP : va_P (dC, dI) ab_cls ((((ws ++ [ct_ar q1 (cA 0) 4]).set k (h0, Sum.inr (2, [.null, .null, .ref q1]))).set k (h0, Sum.inr (2, [.ref r1, .null, .ref q1]))).set k (h0, Sum.inr (2, [.ref r1, .ref r2, .ref q1]))) H := hP
  have hD : va_D (fun q => s0.heap.size ≤ q) ((((ws ++ [ct_ar q1 (cA 0) 4]).set k (h0, Sum.inr (2, [.null, .null, .ref q1]))).set k (h0, Sum.inr (2, [.ref r1, .null, .ref q1]))).set k (h0, Sum.inr (2, [.ref r1, .ref r2, .ref q1]))) := hD
  refine lv_aload_n hx hb cn_2_d21 rfl (lv_at hl 0 rfl) ?_
  refine va_get hx hb (hE.lays hW0 _ (c := 2) (by decide)) (fun w hw => hw) hown (hE.K hW0) hP k hg (ab_cls_get (by decide)) 2 (by decide) (hE.word cn_2_l11 rfl hW0 _) (fun _ z => z) rfl cn_2_d22 ?_
  refine lv_iconst (v := -1) hx hb cn_2_d25 rfl ?_
  refine ct_call (va_runS (As := [.ref q1, .int (-1)]) (rest := []) (Ts := []) ⟨hx, hb, hml, hown, fun _ z => nomatch z⟩ (cn_fill hE ((((ws ++ [ct_ar q1 (cA 0) 4]).set k (h0, Sum.inr (2, [.null, .null, .ref q1]))).set k (h0, Sum.inr (2, [.ref r1, .null, .ref q1]))).set k (h0, Sum.inr (2, [.ref r1, .ref r2, .ref q1]))) ws.length q1 4 (fun _ => 0) (-1) (by decide) hq) ⟨⟨rfl, rfl, (Nat.le_of_ble_eq_true rfl), (Nat.le_of_ble_eq_true rfl), fun w hw a' U hW => by rw [List.mem_singleton.mp hw]; exact hE.word fl_k rfl (State.WarmedH.trans hW0 hW) a', List.mem_cons_self, hE.word fl_k rfl hW0 _, hE.word fl_i rfl hW0 _, ⟨by decide, by decide⟩, ct_sig 2 (by decide +kernel), hE.word fl_m rfl hW0 _⟩, hE.word fl_s rfl hW0 _⟩ ⟨ct_blind, fun U hU hW => ⟨rfl, State.WarmedH.trans hW0 hW, by rw [hU]; exact Nat.le_trans hsz hS.1, by rw [hU]; exact hP, hD⟩⟩ rfl rfl hl.1 rfl (lv_room (Nat.le_of_ble_eq_true rfl)) cn_2_d26 ⟨(Nat.le_of_ble_eq_true rfl), (Nat.le_of_ble_eq_true rfl)⟩) hS (fun ws9 H locs hpo hP hD hS => ?_)
  subst hpo
  exact W.vret hx hb hr (fun t ht hW => ⟨rfl, ⟨_, ⟨q1, rfl⟩, by rw [ht]; exact hP, hD⟩, hS.F ht⟩) hS.2.2 cn_2_d29
theorem cn_5_d0 : decode prog_1_method_1_code 0 = .ok (.aload_n 0, 1) := by decide +kernel
theorem cn_5_d1 : decode prog_1_method_1_code 1 = .ok (.invokespecial 3, 3) := by decide +kernel
theorem cn_5_d4 : decode prog_1_method_1_code 4 = .ok (.aload_n 0, 1) := by decide +kernel
theorem cn_5_d5 : decode prog_1_method_1_code 5 = .ok (.new 9, 3) := by decide +kernel
theorem cn_5_d8 : decode prog_1_method_1_code 8 = .ok (.dup, 1) := by decide +kernel
theorem cn_5_d9 : decode prog_1_method_1_code 9 = .ok (.invokespecial 11, 3) := by decide +kernel
theorem cn_5_d12 : decode prog_1_method_1_code 12 = .ok (.putfield 12, 3) := by decide +kernel
theorem cn_5_d15 : decode prog_1_method_1_code 15 = .ok (.aload_n 0, 1) := by decide +kernel
theorem cn_5_d16 : decode prog_1_method_1_code 16 = .ok (.new 16, 3) := by decide +kernel
theorem cn_5_d19 : decode prog_1_method_1_code 19 = .ok (.dup, 1) := by decide +kernel
theorem cn_5_d20 : decode prog_1_method_1_code 20 = .ok (.invokespecial 18, 3) := by decide +kernel
theorem cn_5_d23 : decode prog_1_method_1_code 23 = .ok (.putfield 19, 3) := by decide +kernel
theorem cn_5_d26 : decode prog_1_method_1_code 26 = .ok (.aload_n 0, 1) := by decide +kernel
theorem cn_5_d27 : decode prog_1_method_1_code 27 = .ok (.new 23, 3) := by decide +kernel
theorem cn_5_d30 : decode prog_1_method_1_code 30 = .ok (.dup, 1) := by decide +kernel
theorem cn_5_d31 : decode prog_1_method_1_code 31 = .ok (.aload_n 0, 1) := by decide +kernel
theorem cn_5_d32 : decode prog_1_method_1_code 32 = .ok (.getfield 12, 3) := by decide +kernel
theorem cn_5_d35 : decode prog_1_method_1_code 35 = .ok (.aload_n 0, 1) := by decide +kernel
theorem cn_5_d36 : decode prog_1_method_1_code 36 = .ok (.getfield 19, 3) := by decide +kernel
theorem cn_5_d39 : decode prog_1_method_1_code 39 = .ok (.invokespecial 25, 3) := by decide +kernel
theorem cn_5_d42 : decode prog_1_method_1_code 42 = .ok (.putfield 28, 3) := by decide +kernel
theorem cn_5_d45 : decode prog_1_method_1_code 45 = .ok (.aload_n 0, 1) := by decide +kernel
theorem cn_5_d46 : decode prog_1_method_1_code 46 = .ok (.new 32, 3) := by decide +kernel
theorem cn_5_d49 : decode prog_1_method_1_code 49 = .ok (.dup, 1) := by decide +kernel
theorem cn_5_d50 : decode prog_1_method_1_code 50 = .ok (.aload_n 0, 1) := by decide +kernel
theorem cn_5_d51 : decode prog_1_method_1_code 51 = .ok (.getfield 12, 3) := by decide +kernel
theorem cn_5_d54 : decode prog_1_method_1_code 54 = .ok (.aload_n 0, 1) := by decide +kernel
theorem cn_5_d55 : decode prog_1_method_1_code 55 = .ok (.getfield 19, 3) := by decide +kernel
theorem cn_5_d58 : decode prog_1_method_1_code 58 = .ok (.invokespecial 34, 3) := by decide +kernel
theorem cn_5_d61 : decode prog_1_method_1_code 61 = .ok (.putfield 35, 3) := by decide +kernel
theorem cn_5_d64 : decode prog_1_method_1_code 64 = .ok (.aload_n 0, 1) := by decide +kernel
theorem cn_5_d65 : decode prog_1_method_1_code 65 = .ok (.new 39, 3) := by decide +kernel
theorem cn_5_d68 : decode prog_1_method_1_code 68 = .ok (.dup, 1) := by decide +kernel
theorem cn_5_d69 : decode prog_1_method_1_code 69 = .ok (.aload_n 0, 1) := by decide +kernel
theorem cn_5_d70 : decode prog_1_method_1_code 70 = .ok (.getfield 12, 3) := by decide +kernel
theorem cn_5_d73 : decode prog_1_method_1_code 73 = .ok (.aload_n 0, 1) := by decide +kernel
theorem cn_5_d74 : decode prog_1_method_1_code 74 = .ok (.getfield 19, 3) := by decide +kernel
theorem cn_5_d77 : decode prog_1_method_1_code 77 = .ok (.invokespecial 41, 3) := by decide +kernel
theorem cn_5_d80 : decode prog_1_method_1_code 80 = .ok (.putfield 42, 3) := by decide +kernel
theorem cn_5_d83 : decode prog_1_method_1_code 83 = .ok (.return_, 1) := by decide +kernel
theorem cn_5_o : Cond.methodLink (ab_cs 5) 3 objectInit ∈ lw_tbl := List.mem_append_right _ (List.mem_of_getElem? (i := 22) (by decide +kernel))
theorem cn_5_k : Cond.code ⟨"ParserProof", "<init>", "()V"⟩ prog_1_method_1_code 1 none ∈ lw_tbl := List.mem_append_right _ (List.mem_of_getElem? (i := 21) (by decide +kernel))
theorem cn_5_n3 : Cond.classLink (ab_cs 5) 9 (ab_cs 3) ∈ lw_tbl := List.mem_append_right _ (List.mem_of_getElem? (i := 25) (by decide +kernel))
theorem cn_5_t3 : Cond.instantiable (ab_cs 3) (ab_N 3) ∈ lw_tbl := List.mem_append_right _ (List.mem_of_getElem? (i := 26) (by decide +kernel))
theorem cn_5_i3 : Cond.initialized (ab_cs 3) ∈ lw_tbl := List.mem_append_right _ (List.mem_of_getElem? (i := 2) (by decide +kernel))
theorem cn_5_m3 : Cond.methodLinkNest (ab_cs 5) 11 ⟨"ParserProof$Grammar", "<init>", "()V"⟩ "ParserProof" ∈ lw_tbl := List.mem_append_right _ (List.mem_of_getElem? (i := 27) (by decide +kernel))
theorem cn_5_x3 : Cond.instanceMethod ⟨"ParserProof$Grammar", "<init>", "()V"⟩ ∈ lw_tbl := List.mem_append_right _ (List.mem_of_getElem? (i := 28) (by decide +kernel))
theorem cn_5_l12 : Cond.fieldLink (ab_cs 5) 12 (ab_cs 5) (ab_T 5 0).2.1 (ab_T 5 0).2.2.1 ∈ lw_tbl := List.mem_append_right _ (List.mem_of_getElem? (i := 156) (by decide +kernel))
theorem cn_5_n0 : Cond.classLink (ab_cs 5) 16 (ab_cs 0) ∈ lw_tbl := List.mem_append_right _ (List.mem_of_getElem? (i := 62) (by decide +kernel))
theorem cn_5_t0 : Cond.instantiable (ab_cs 0) (ab_N 0) ∈ lw_tbl := List.mem_append_right _ (List.mem_of_getElem? (i := 63) (by decide +kernel))
theorem cn_5_i0 : Cond.initialized (ab_cs 0) ∈ lw_tbl := List.mem_append_right _ (List.mem_of_getElem? (i := 3) (by decide +kernel))
theorem cn_5_m0 : Cond.methodLinkNest (ab_cs 5) 18 ⟨"ParserProof$Automaton", "<init>", "()V"⟩ "ParserProof" ∈ lw_tbl := List.mem_append_right _ (List.mem_of_getElem? (i := 64) (by decide +kernel))
theorem cn_5_x0 : Cond.instanceMethod ⟨"ParserProof$Automaton", "<init>", "()V"⟩ ∈ lw_tbl := List.mem_append_right _ (List.mem_of_getElem? (i := 65) (by decide +kernel))
theorem cn_5_l19 : Cond.fieldLink (ab_cs 5) 19 (ab_cs 5) (ab_T 5 1).2.1 (ab_T 5 1).2.2.1 ∈ lw_tbl := List.mem_append_right _ (List.mem_of_getElem? (i := 157) (by decide +kernel))
theorem cn_5_n1 : Cond.classLink (ab_cs 5) 23 (ab_cs 1) ∈ lw_tbl := List.mem_append_right _ (List.mem_of_getElem? (i := 81) (by decide +kernel))
theorem cn_5_t1 : Cond.instantiable (ab_cs 1) (ab_N 1) ∈ lw_tbl := List.mem_append_right _ (List.mem_of_getElem? (i := 82) (by decide +kernel))
theorem cn_5_i1 : Cond.initialized (ab_cs 1) ∈ lw_tbl := List.mem_append_right _ (List.mem_of_getElem? (i := 4) (by decide +kernel))
theorem cn_5_m1 : Cond.methodLink (ab_cs 5) 25 ⟨"ParserProof$Builder", "<init>", "(LParserProof$Grammar;LParserProof$Automaton;)V"⟩ ∈ lw_tbl := List.mem_append_right _ (List.mem_of_getElem? (i := 83) (by decide +kernel))
theorem cn_5_x1 : Cond.instanceMethod ⟨"ParserProof$Builder", "<init>", "(LParserProof$Grammar;LParserProof$Automaton;)V"⟩ ∈ lw_tbl := List.mem_append_right _ (List.mem_of_getElem? (i := 84) (by decide +kernel))
theorem cn_5_l28 : Cond.fieldLink (ab_cs 5) 28 (ab_cs 5) (ab_T 5 2).2.1 (ab_T 5 2).2.2.1 ∈ lw_tbl := List.mem_append_right _ (List.mem_of_getElem? (i := 158) (by decide +kernel))
theorem cn_5_n2 : Cond.classLink (ab_cs 5) 32 (ab_cs 2) ∈ lw_tbl := List.mem_append_right _ (List.mem_of_getElem? (i := 97) (by decide +kernel))
theorem cn_5_t2 : Cond.instantiable (ab_cs 2) (ab_N 2) ∈ lw_tbl := List.mem_append_right _ (List.mem_of_getElem? (i := 98) (by decide +kernel))
theorem cn_5_i2 : Cond.initialized (ab_cs 2) ∈ lw_tbl := List.mem_append_right _ (List.mem_of_getElem? (i := 5) (by decide +kernel))
theorem cn_5_m2 : Cond.methodLink (ab_cs 5) 34 ⟨"ParserProof$Checker", "<init>", "(LParserProof$Grammar;LParserProof$Automaton;)V"⟩ ∈ lw_tbl := List.mem_append_right _ (List.mem_of_getElem? (i := 99) (by decide +kernel))
theorem cn_5_x2 : Cond.instanceMethod ⟨"ParserProof$Checker", "<init>", "(LParserProof$Grammar;LParserProof$Automaton;)V"⟩ ∈ lw_tbl := List.mem_append_right _ (List.mem_of_getElem? (i := 100) (by decide +kernel))
theorem cn_5_l35 : Cond.fieldLink (ab_cs 5) 35 (ab_cs 5) (ab_T 5 3).2.1 (ab_T 5 3).2.2.1 ∈ lw_tbl := List.mem_append_right _ (List.mem_of_getElem? (i := 159) (by decide +kernel))
theorem cn_5_n4 : Cond.classLink (ab_cs 5) 39 (ab_cs 4) ∈ lw_tbl := List.mem_append_right _ (List.mem_of_getElem? (i := 116) (by decide +kernel))
theorem cn_5_t4 : Cond.instantiable (ab_cs 4) (ab_N 4) ∈ lw_tbl := List.mem_append_right _ (List.mem_of_getElem? (i := 117) (by decide +kernel))
theorem cn_5_i4 : Cond.initialized (ab_cs 4) ∈ lw_tbl := List.mem_append_right _ (List.mem_of_getElem? (i := 7) (by decide +kernel))
theorem cn_5_m4 : Cond.methodLink (ab_cs 5) 41 ⟨"ParserProof$Parser", "<init>", "(LParserProof$Grammar;LParserProof$Automaton;)V"⟩ ∈ lw_tbl := List.mem_append_right _ (List.mem_of_getElem? (i := 118) (by decide +kernel))
theorem cn_5_x4 : Cond.instanceMethod ⟨"ParserProof$Parser", "<init>", "(LParserProof$Grammar;LParserProof$Automaton;)V"⟩ ∈ lw_tbl := List.mem_append_right _ (List.mem_of_getElem? (i := 119) (by decide +kernel))
theorem cn_5_l42 : Cond.fieldLink (ab_cs 5) 42 (ab_cs 5) (ab_T 5 4).2.1 (ab_T 5 4).2.2.1 ∈ lw_tbl := List.mem_append_right _ (List.mem_of_getElem? (i := 160) (by decide +kernel))
set_option maxHeartbeats 4000000 in
set_option maxRecDepth 100000 in
theorem cn_5 (hE : ct_E s0 a0 dC dI cA) (h0 : Nat) : Met l ⟨"ParserProof", "<init>", "()V"⟩ [Cond.code ⟨"ParserProof", "<init>", "()V"⟩ prog_1_method_1_code 1 none] { frames := 2, cells := 18, slots := 3327, locals := 45 } (ct_P s0 dC dI [.ref h0] [(h0, Sum.inr (5, [.null, .null, .null, .null, .null]))]) (ct_Q s0 dC dI (fun ws' => ∃ g g1 g2 g3 g4 g5 a a1 a2 b b1 d d1 r r1 r2 r3 r4 : Nat, ws' = [(h0, Sum.inr (5, [.ref g, .ref a, .ref b, .ref d, .ref r])), (g, Sum.inr (3, [.int 0, .ref g1, .ref g2, .ref g3, .ref g4, .ref g5])), (g1, Sum.inl (cA 0, (8, Sum.inl (fun _ => 0)))), (g2, Sum.inl (cA 0, (9, Sum.inl (fun _ => 0)))), (g3, Sum.inl (cA 0, (36, Sum.inl (fun _ => 0)))), (g4, Sum.inl (cA 1, (4, Sum.inl (fun _ => 0)))), (g5, Sum.inl (cA 0, (4, Sum.inl (fun _ => 0)))), (a, Sum.inr (0, [.int 0, .ref a1, .ref a2])), (a1, Sum.inl (cA 0, (500, Sum.inl (fun _ => 0)))), (a2, Sum.inl (cA 0, (2250, Sum.inl (fun _ => 0)))), (b, Sum.inr (1, [.ref g, .ref a, .ref b1])), (b1, Sum.inl (cA 0, (45, Sum.inl (fun _ => 0)))), (d, Sum.inr (2, [.ref g, .ref a, .ref d1])), (d1, Sum.inl (cA 0, (4, Sum.inl (fl_f (fun _ => 0) 4 (-1))))), (r, Sum.inr (4, [.ref g, .ref a, .ref r1, .int 0, .int 0, .ref r2, .ref r3, .int 0, .ref r4, .int 0])), (r1, Sum.inl (cA 0, (20, Sum.inl (fun _ => 0)))), (r2, Sum.inl (cA 0, (61, Sum.inl (fun _ => 0)))), (r3, Sum.inl (cA 0, (61, Sum.inl (fun _ => 0)))), (r4, Sum.inl (cA 0, (300, Sum.inl (fun _ => 0))))])) 18 3327 (fun q => s0.heap.size ≤ q) := by
  refine Met.ofW (cc := prog_1_method_1_code) (maxL := 1) (ret := none) (by decide) rfl ?_
  intro p e s m args below meth c s₁ B hml hv
  obtain ⟨rfl, hW0, hsz, hP, hD⟩ := hv
  have hx := B.exec
  have hb := B.bytes
  have hr := B.returns
  have hown : s.vm.findClass (ab_cs 5) = some m.cls := findClass_of_methodNamed B.named
  have hlocks := B.notSynchronized
  have hin : meth.name = "<init>" := (name_of_methodNamed B.named B.method).1
  have hS : va_S (fun q => s0.heap.size ≤ q) s.heap s.heap [] := va_S.rf
  have hl := lv_entry ([.ref h0]) (n := 1) (Nat.le_of_ble_eq_true rfl)
  rw [lg_entry_eq]
  generalize (lg_sl ([.ref h0]) ++ List.replicate (1 - (lg_sl ([.ref h0])).length) Slot.unset).toArray = ls at hl ⊢
  have hl : lv_has ls 1 [(0, .ref h0)] := hl
  refine lv_aload_n hx hb cn_5_d0 rfl (lv_at hl 0 rfl) ?_
  refine W.objInit hx hb hown (hE.word cn_5_o rfl hW0 _) (hE.word ow_i rfl hW0 _) (hE.word ow_c rfl hW0 _) rfl (by rw [hml]; exact hl.1) rfl cn_5_d1 (Nat.le_of_ble_eq_true rfl) (Nat.le_of_ble_eq_true rfl) ?_
  refine W.eq (g2 := F0 m 4 ls []) rfl ?_
  refine lv_aload_n hx hb cn_5_d4 rfl (lv_at hl 0 rfl) ?_
  refine va_new (ci := 3) (fs := [.int 0, .null, .null, .null, .null, .null]) (C := ab_cs 3) (T := ab_T 3) (N := ab_N 3) hx hb (hE.lays hW0 _ (c := 3) (by decide)) (fun w hw => hw) (ab_tyf 3) (ab_ty0 (by decide)) hown (hE.word cn_5_n3 rfl hW0 _) (hE.word cn_5_t3 rfl hW0 _) (hE.word cn_5_i3 rfl hW0 _) (hE.K hW0) hP hD hS (fun q hq => Nat.le_trans hsz hq) (ab_cls_get (by decide)) (fun j hj => by have hj : j < 6 := hj; match j, hj with | 0, _ => rfl | 1, _ => rfl | 2, _ => rfl | 3, _ => rfl | 4, _ => rfl | 5, _ => rfl | n + 6, h => exact absurd h (by omega)) (Nat.le_of_ble_eq_true rfl) (Nat.le_of_ble_eq_true rfl) cn_5_d5 (fun g H hP hD hS => ?_)
  have hP : va_P (dC, dI) ab_cls [(h0, Sum.inr (5, [.null, .null, .null, .null, .null])), (g, Sum.inr (3, [.int 0, .null, .null, .null, .null, .null]))] H := hP
  have hD : va_D (fun q => s0.heap.size ≤ q) [(h0, Sum.inr (5, [.null, .null, .null, .null, .null])), (g, Sum.inr (3, [.int 0, .null, .null, .null, .null, .null]))] := hD
  refine lv_dup hx hb cn_5_d8 rfl ?_
  refine ct_call (va_runIN (b := g) (As := []) (rest := [.ref g, .ref h0]) (Ts := []) ⟨hx, hb, hml, hown, fun _ z => nomatch z⟩ (cn_3 hE [(h0, Sum.inr (5, [.null, .null, .null, .null, .null])), (g, Sum.inr (3, [.int 0, .null, .null, .null, .null, .null]))] 1 g rfl) ⟨⟨⟨rfl, rfl, (Nat.le_of_ble_eq_true rfl), (Nat.le_of_ble_eq_true rfl), fun w hw a' U hW => by rw [List.mem_singleton.mp hw]; exact hE.word cn_3_k rfl (State.WarmedH.trans hW0 hW) a', List.mem_cons_self⟩, hE.word cn_3_k rfl hW0 _, hE.word cn_5_i3 rfl hW0 _, ⟨by decide, by decide⟩, ct_sig 0 (by decide +kernel), va_Nw.use rfl (va_Nw.warmM hW0 (va_Nw.of rfl (hE.1 _ cn_5_m3)))⟩, rfl, hE.word cn_5_x3 rfl hW0 _⟩ ⟨ct_blind, fun U hU hW => ⟨rfl, State.WarmedH.trans hW0 hW, by rw [hU]; exact Nat.le_trans hsz hS.1, by rw [hU]; exact hP, hD⟩⟩ rfl rfl hl.1 rfl (lv_room (Nat.le_of_ble_eq_true rfl)) cn_5_d9 ⟨(Nat.le_of_ble_eq_true rfl), (Nat.le_of_ble_eq_true rfl)⟩) hS (fun ws9 H locs hpo hP hD hS => ?_)
  obtain ⟨g1, g2, g3, g4, g5, rfl⟩ := hpo
  have hP : va_P (dC, dI) ab_cls [(h0, Sum.inr (5, [.null, .null, .null, .null, .null])), (g, Sum.inr (3, [.int 0, .ref g1, .ref g2, .ref g3, .ref g4, .ref g5])), (g1, Sum.inl (cA 0, (8, Sum.inl (fun _ => 0)))), (g2, Sum.inl (cA 0, (9, Sum.inl (fun _ => 0)))), (g3, Sum.inl (cA 0, (36, Sum.inl (fun _ => 0)))), (g4, Sum.inl (cA 1, (4, Sum.inl (fun _ => 0)))), (g5, Sum.inl (cA 0, (4, Sum.inl (fun _ => 0))))] H := hP
  have hD : va_D (fun q => s0.heap.size ≤ q) [(h0, Sum.inr (5, [.null, .null, .null, .null, .null])), (g, Sum.inr (3, [.int 0, .ref g1, .ref g2, .ref g3, .ref g4, .ref g5])), (g1, Sum.inl (cA 0, (8, Sum.inl (fun _ => 0)))), (g2, Sum.inl (cA 0, (9, Sum.inl (fun _ => 0)))), (g3, Sum.inl (cA 0, (36, Sum.inl (fun _ => 0)))), (g4, Sum.inl (cA 1, (4, Sum.inl (fun _ => 0)))), (g5, Sum.inl (cA 0, (4, Sum.inl (fun _ => 0))))] := hD
  refine va_putF hx hb (hE.lays hW0 _ (c := 5) (by decide)) (fun w hw => hw) (ab_tyf 5) (ab_ty0 (by decide)) (ab_nm0 (by decide)) hown (hE.K hW0) hP hD hS 0 rfl (ab_cls_get (by decide)) 0 (by decide) (hE.word cn_5_l12 rfl hW0 _) (fun _ z => z) rfl hin rfl (ab_ty0 (c := 5) (by decide) 0 (by decide)) rfl rfl (Nat.le_of_ble_eq_true rfl) cn_5_d12 (fun H locs hP hD hS => ?_)
  have hP : va_P (dC, dI) ab_cls [(h0, Sum.inr (5, [.ref g, .null, .null, .null, .null])), (g, Sum.inr (3, [.int 0, .ref g1, .ref g2, .ref g3, .ref g4, .ref g5])), (g1, Sum.inl (cA 0, (8, Sum.inl (fun _ => 0)))), (g2, Sum.inl (cA 0, (9, Sum.inl (fun _ => 0)))), (g3, Sum.inl (cA 0, (36, Sum.inl (fun _ => 0)))), (g4, Sum.inl (cA 1, (4, Sum.inl (fun _ => 0)))), (g5, Sum.inl (cA 0, (4, Sum.inl (fun _ => 0))))] H := hP
  have hD : va_D (fun q => s0.heap.size ≤ q) [(h0, Sum.inr (5, [.ref g, .null, .null, .null, .null])), (g, Sum.inr (3, [.int 0, .ref g1, .ref g2, .ref g3, .ref g4, .ref g5])), (g1, Sum.inl (cA 0, (8, Sum.inl (fun _ => 0)))), (g2, Sum.inl (cA 0, (9, Sum.inl (fun _ => 0)))), (g3, Sum.inl (cA 0, (36, Sum.inl (fun _ => 0)))), (g4, Sum.inl (cA 1, (4, Sum.inl (fun _ => 0)))), (g5, Sum.inl (cA 0, (4, Sum.inl (fun _ => 0))))] := hD
  refine lv_aload_n hx hb cn_5_d15 rfl (lv_at hl 0 rfl) ?_
  refine va_new (ci := 0) (fs := [.int 0, .null, .null]) (C := ab_cs 0) (T := ab_T 0) (N := ab_N 0) hx hb (hE.lays hW0 _ (c := 0) (by decide)) (fun w hw => hw) (ab_tyf 0) (ab_ty0 (by decide)) hown (hE.word cn_5_n0 rfl hW0 _) (hE.word cn_5_t0 rfl hW0 _) (hE.word cn_5_i0 rfl hW0 _) (hE.K hW0) hP hD hS (fun q hq => Nat.le_trans hsz hq) (ab_cls_get (by decide)) (fun j hj => by have hj : j < 3 := hj; match j, hj with | 0, _ => rfl | 1, _ => rfl | 2, _ => rfl | n + 3, h => exact absurd h (by omega)) (Nat.le_of_ble_eq_true rfl) (Nat.le_of_ble_eq_true rfl) cn_5_d16 (fun a H hP hD hS => ?_)
  have hP : va_P (dC, dI) ab_cls [(h0, Sum.inr (5, [.ref g, .null, .null, .null, .null])), (g, Sum.inr (3, [.int 0, .ref g1, .ref g2, .ref g3, .ref g4, .ref g5])), (g1, Sum.inl (cA 0, (8, Sum.inl (fun _ => 0)))), (g2, Sum.inl (cA 0, (9, Sum.inl (fun _ => 0)))), (g3, Sum.inl (cA 0, (36, Sum.inl (fun _ => 0)))), (g4, Sum.inl (cA 1, (4, Sum.inl (fun _ => 0)))), (g5, Sum.inl (cA 0, (4, Sum.inl (fun _ => 0)))), (a, Sum.inr (0, [.int 0, .null, .null]))] H := hP
  have hD : va_D (fun q => s0.heap.size ≤ q) [(h0, Sum.inr (5, [.ref g, .null, .null, .null, .null])), (g, Sum.inr (3, [.int 0, .ref g1, .ref g2, .ref g3, .ref g4, .ref g5])), (g1, Sum.inl (cA 0, (8, Sum.inl (fun _ => 0)))), (g2, Sum.inl (cA 0, (9, Sum.inl (fun _ => 0)))), (g3, Sum.inl (cA 0, (36, Sum.inl (fun _ => 0)))), (g4, Sum.inl (cA 1, (4, Sum.inl (fun _ => 0)))), (g5, Sum.inl (cA 0, (4, Sum.inl (fun _ => 0)))), (a, Sum.inr (0, [.int 0, .null, .null]))] := hD
  refine lv_dup hx hb cn_5_d19 rfl ?_
  refine ct_call (va_runIN (b := a) (As := []) (rest := [.ref a, .ref h0]) (Ts := []) ⟨hx, hb, hml, hown, fun _ z => nomatch z⟩ (cn_0 hE [(h0, Sum.inr (5, [.ref g, .null, .null, .null, .null])), (g, Sum.inr (3, [.int 0, .ref g1, .ref g2, .ref g3, .ref g4, .ref g5])), (g1, Sum.inl (cA 0, (8, Sum.inl (fun _ => 0)))), (g2, Sum.inl (cA 0, (9, Sum.inl (fun _ => 0)))), (g3, Sum.inl (cA 0, (36, Sum.inl (fun _ => 0)))), (g4, Sum.inl (cA 1, (4, Sum.inl (fun _ => 0)))), (g5, Sum.inl (cA 0, (4, Sum.inl (fun _ => 0)))), (a, Sum.inr (0, [.int 0, .null, .null]))] 7 a rfl) ⟨⟨⟨rfl, rfl, (Nat.le_of_ble_eq_true rfl), (Nat.le_of_ble_eq_true rfl), fun w hw a' U hW => by rw [List.mem_singleton.mp hw]; exact hE.word cn_0_k rfl (State.WarmedH.trans hW0 hW) a', List.mem_cons_self⟩, hE.word cn_0_k rfl hW0 _, hE.word cn_5_i0 rfl hW0 _, ⟨by decide, by decide⟩, ct_sig 0 (by decide +kernel), va_Nw.use rfl (va_Nw.warmM hW0 (va_Nw.of rfl (hE.1 _ cn_5_m0)))⟩, rfl, hE.word cn_5_x0 rfl hW0 _⟩ ⟨ct_blind, fun U hU hW => ⟨rfl, State.WarmedH.trans hW0 hW, by rw [hU]; exact Nat.le_trans hsz hS.1, by rw [hU]; exact hP, hD⟩⟩ rfl rfl hl.1 rfl (lv_room (Nat.le_of_ble_eq_true rfl)) cn_5_d20 ⟨(Nat.le_of_ble_eq_true rfl), (Nat.le_of_ble_eq_true rfl)⟩) hS (fun ws9 H locs hpo hP hD hS => ?_)
  obtain ⟨a1, a2, rfl⟩ := hpo
  have hP : va_P (dC, dI) ab_cls [(h0, Sum.inr (5, [.ref g, .null, .null, .null, .null])), (g, Sum.inr (3, [.int 0, .ref g1, .ref g2, .ref g3, .ref g4, .ref g5])), (g1, Sum.inl (cA 0, (8, Sum.inl (fun _ => 0)))), (g2, Sum.inl (cA 0, (9, Sum.inl (fun _ => 0)))), (g3, Sum.inl (cA 0, (36, Sum.inl (fun _ => 0)))), (g4, Sum.inl (cA 1, (4, Sum.inl (fun _ => 0)))), (g5, Sum.inl (cA 0, (4, Sum.inl (fun _ => 0)))), (a, Sum.inr (0, [.int 0, .ref a1, .ref a2])), (a1, Sum.inl (cA 0, (500, Sum.inl (fun _ => 0)))), (a2, Sum.inl (cA 0, (2250, Sum.inl (fun _ => 0))))] H := hP
  have hD : va_D (fun q => s0.heap.size ≤ q) [(h0, Sum.inr (5, [.ref g, .null, .null, .null, .null])), (g, Sum.inr (3, [.int 0, .ref g1, .ref g2, .ref g3, .ref g4, .ref g5])), (g1, Sum.inl (cA 0, (8, Sum.inl (fun _ => 0)))), (g2, Sum.inl (cA 0, (9, Sum.inl (fun _ => 0)))), (g3, Sum.inl (cA 0, (36, Sum.inl (fun _ => 0)))), (g4, Sum.inl (cA 1, (4, Sum.inl (fun _ => 0)))), (g5, Sum.inl (cA 0, (4, Sum.inl (fun _ => 0)))), (a, Sum.inr (0, [.int 0, .ref a1, .ref a2])), (a1, Sum.inl (cA 0, (500, Sum.inl (fun _ => 0)))), (a2, Sum.inl (cA 0, (2250, Sum.inl (fun _ => 0))))] := hD
  refine va_putF hx hb (hE.lays hW0 _ (c := 5) (by decide)) (fun w hw => hw) (ab_tyf 5) (ab_ty0 (by decide)) (ab_nm0 (by decide)) hown (hE.K hW0) hP hD hS 0 rfl (ab_cls_get (by decide)) 1 (by decide) (hE.word cn_5_l19 rfl hW0 _) (fun _ z => z) rfl hin rfl (ab_ty0 (c := 5) (by decide) 1 (by decide)) rfl rfl (Nat.le_of_ble_eq_true rfl) cn_5_d23 (fun H locs hP hD hS => ?_)
  have hP : va_P (dC, dI) ab_cls [(h0, Sum.inr (5, [.ref g, .ref a, .null, .null, .null])), (g, Sum.inr (3, [.int 0, .ref g1, .ref g2, .ref g3, .ref g4, .ref g5])), (g1, Sum.inl (cA 0, (8, Sum.inl (fun _ => 0)))), (g2, Sum.inl (cA 0, (9, Sum.inl (fun _ => 0)))), (g3, Sum.inl (cA 0, (36, Sum.inl (fun _ => 0)))), (g4, Sum.inl (cA 1, (4, Sum.inl (fun _ => 0)))), (g5, Sum.inl (cA 0, (4, Sum.inl (fun _ => 0)))), (a, Sum.inr (0, [.int 0, .ref a1, .ref a2])), (a1, Sum.inl (cA 0, (500, Sum.inl (fun _ => 0)))), (a2, Sum.inl (cA 0, (2250, Sum.inl (fun _ => 0))))] H := hP
  have hD : va_D (fun q => s0.heap.size ≤ q) [(h0, Sum.inr (5, [.ref g, .ref a, .null, .null, .null])), (g, Sum.inr (3, [.int 0, .ref g1, .ref g2, .ref g3, .ref g4, .ref g5])), (g1, Sum.inl (cA 0, (8, Sum.inl (fun _ => 0)))), (g2, Sum.inl (cA 0, (9, Sum.inl (fun _ => 0)))), (g3, Sum.inl (cA 0, (36, Sum.inl (fun _ => 0)))), (g4, Sum.inl (cA 1, (4, Sum.inl (fun _ => 0)))), (g5, Sum.inl (cA 0, (4, Sum.inl (fun _ => 0)))), (a, Sum.inr (0, [.int 0, .ref a1, .ref a2])), (a1, Sum.inl (cA 0, (500, Sum.inl (fun _ => 0)))), (a2, Sum.inl (cA 0, (2250, Sum.inl (fun _ => 0))))] := hD
  refine lv_aload_n hx hb cn_5_d26 rfl (lv_at hl 0 rfl) ?_
  refine va_new (ci := 1) (fs := [.null, .null, .null]) (C := ab_cs 1) (T := ab_T 1) (N := ab_N 1) hx hb (hE.lays hW0 _ (c := 1) (by decide)) (fun w hw => hw) (ab_tyf 1) (ab_ty0 (by decide)) hown (hE.word cn_5_n1 rfl hW0 _) (hE.word cn_5_t1 rfl hW0 _) (hE.word cn_5_i1 rfl hW0 _) (hE.K hW0) hP hD hS (fun q hq => Nat.le_trans hsz hq) (ab_cls_get (by decide)) (fun j hj => by have hj : j < 3 := hj; match j, hj with | 0, _ => rfl | 1, _ => rfl | 2, _ => rfl | n + 3, h => exact absurd h (by omega)) (Nat.le_of_ble_eq_true rfl) (Nat.le_of_ble_eq_true rfl) cn_5_d27 (fun b H hP hD hS => ?_)
  have hP : va_P (dC, dI) ab_cls [(h0, Sum.inr (5, [.ref g, .ref a, .null, .null, .null])), (g, Sum.inr (3, [.int 0, .ref g1, .ref g2, .ref g3, .ref g4, .ref g5])), (g1, Sum.inl (cA 0, (8, Sum.inl (fun _ => 0)))), (g2, Sum.inl (cA 0, (9, Sum.inl (fun _ => 0)))), (g3, Sum.inl (cA 0, (36, Sum.inl (fun _ => 0)))), (g4, Sum.inl (cA 1, (4, Sum.inl (fun _ => 0)))), (g5, Sum.inl (cA 0, (4, Sum.inl (fun _ => 0)))), (a, Sum.inr (0, [.int 0, .ref a1, .ref a2])), (a1, Sum.inl (cA 0, (500, Sum.inl (fun _ => 0)))), (a2, Sum.inl (cA 0, (2250, Sum.inl (fun _ => 0)))), (b, Sum.inr (1, [.null, .null, .null]))] H := hP
  have hD : va_D (fun q => s0.heap.size ≤ q) [(h0, Sum.inr (5, [.ref g, .ref a, .null, .null, .null])), (g, Sum.inr (3, [.int 0, .ref g1, .ref g2, .ref g3, .ref g4, .ref g5])), (g1, Sum.inl (cA 0, (8, Sum.inl (fun _ => 0)))), (g2, Sum.inl (cA 0, (9, Sum.inl (fun _ => 0)))), (g3, Sum.inl (cA 0, (36, Sum.inl (fun _ => 0)))), (g4, Sum.inl (cA 1, (4, Sum.inl (fun _ => 0)))), (g5, Sum.inl (cA 0, (4, Sum.inl (fun _ => 0)))), (a, Sum.inr (0, [.int 0, .ref a1, .ref a2])), (a1, Sum.inl (cA 0, (500, Sum.inl (fun _ => 0)))), (a2, Sum.inl (cA 0, (2250, Sum.inl (fun _ => 0)))), (b, Sum.inr (1, [.null, .null, .null]))] := hD
  refine lv_dup hx hb cn_5_d30 rfl ?_
  refine lv_aload_n hx hb cn_5_d31 rfl (lv_at hl 0 rfl) ?_
  refine va_get hx hb (hE.lays hW0 _ (c := 5) (by decide)) (fun w hw => hw) hown (hE.K hW0) hP 0 rfl (ab_cls_get (by decide)) 0 (by decide) (hE.word cn_5_l12 rfl hW0 _) (fun _ z => z) rfl cn_5_d32 ?_
  refine lv_aload_n hx hb cn_5_d35 rfl (lv_at hl 0 rfl) ?_
  refine va_get hx hb (hE.lays hW0 _ (c := 5) (by decide)) (fun w hw => hw) hown (hE.K hW0) hP 0 rfl (ab_cls_get (by decide)) 1 (by decide) (hE.word cn_5_l19 rfl hW0 _) (fun _ z => z) rfl cn_5_d36 ?_
  refine ct_call (va_runI (b := b) (As := [.ref g, .ref a]) (rest := [.ref b, .ref h0]) (Ts := []) ⟨hx, hb, hml, hown, fun _ z => nomatch z⟩ (cn_1 hE [(h0, Sum.inr (5, [.ref g, .ref a, .null, .null, .null])), (g, Sum.inr (3, [.int 0, .ref g1, .ref g2, .ref g3, .ref g4, .ref g5])), (g1, Sum.inl (cA 0, (8, Sum.inl (fun _ => 0)))), (g2, Sum.inl (cA 0, (9, Sum.inl (fun _ => 0)))), (g3, Sum.inl (cA 0, (36, Sum.inl (fun _ => 0)))), (g4, Sum.inl (cA 1, (4, Sum.inl (fun _ => 0)))), (g5, Sum.inl (cA 0, (4, Sum.inl (fun _ => 0)))), (a, Sum.inr (0, [.int 0, .ref a1, .ref a2])), (a1, Sum.inl (cA 0, (500, Sum.inl (fun _ => 0)))), (a2, Sum.inl (cA 0, (2250, Sum.inl (fun _ => 0)))), (b, Sum.inr (1, [.null, .null, .null]))] 10 b g a rfl) ⟨⟨rfl, rfl, (Nat.le_of_ble_eq_true rfl), (Nat.le_of_ble_eq_true rfl), fun w hw a' U hW => by rw [List.mem_singleton.mp hw]; exact hE.word cn_1_k rfl (State.WarmedH.trans hW0 hW) a', List.mem_cons_self, hE.word cn_1_k rfl hW0 _, hE.word cn_5_i1 rfl hW0 _, ⟨by decide, by decide⟩, ct_sig 2 (by decide +kernel), hE.word cn_5_m1 rfl hW0 _⟩, rfl, hE.word cn_5_x1 rfl hW0 _⟩ ⟨ct_blind, fun U hU hW => ⟨rfl, State.WarmedH.trans hW0 hW, by rw [hU]; exact Nat.le_trans hsz hS.1, by rw [hU]; exact hP, hD⟩⟩ rfl rfl hl.1 rfl (lv_room (Nat.le_of_ble_eq_true rfl)) cn_5_d39 ⟨(Nat.le_of_ble_eq_true rfl), (Nat.le_of_ble_eq_true rfl)⟩) hS (fun ws9 H locs hpo hP hD hS => ?_)
  obtain ⟨b1, rfl⟩ := hpo
  have hP : va_P (dC, dI) ab_cls [(h0, Sum.inr (5, [.ref g, .ref a, .null, .null, .null])), (g, Sum.inr (3, [.int 0, .ref g1, .ref g2, .ref g3, .ref g4, .ref g5])), (g1, Sum.inl (cA 0, (8, Sum.inl (fun _ => 0)))), (g2, Sum.inl (cA 0, (9, Sum.inl (fun _ => 0)))), (g3, Sum.inl (cA 0, (36, Sum.inl (fun _ => 0)))), (g4, Sum.inl (cA 1, (4, Sum.inl (fun _ => 0)))), (g5, Sum.inl (cA 0, (4, Sum.inl (fun _ => 0)))), (a, Sum.inr (0, [.int 0, .ref a1, .ref a2])), (a1, Sum.inl (cA 0, (500, Sum.inl (fun _ => 0)))), (a2, Sum.inl (cA 0, (2250, Sum.inl (fun _ => 0)))), (b, Sum.inr (1, [.ref g, .ref a, .ref b1])), (b1, Sum.inl (cA 0, (45, Sum.inl (fun _ => 0))))] H := hP
  have hD : va_D (fun q => s0.heap.size ≤ q) [(h0, Sum.inr (5, [.ref g, .ref a, .null, .null, .null])), (g, Sum.inr (3, [.int 0, .ref g1, .ref g2, .ref g3, .ref g4, .ref g5])), (g1, Sum.inl (cA 0, (8, Sum.inl (fun _ => 0)))), (g2, Sum.inl (cA 0, (9, Sum.inl (fun _ => 0)))), (g3, Sum.inl (cA 0, (36, Sum.inl (fun _ => 0)))), (g4, Sum.inl (cA 1, (4, Sum.inl (fun _ => 0)))), (g5, Sum.inl (cA 0, (4, Sum.inl (fun _ => 0)))), (a, Sum.inr (0, [.int 0, .ref a1, .ref a2])), (a1, Sum.inl (cA 0, (500, Sum.inl (fun _ => 0)))), (a2, Sum.inl (cA 0, (2250, Sum.inl (fun _ => 0)))), (b, Sum.inr (1, [.ref g, .ref a, .ref b1])), (b1, Sum.inl (cA 0, (45, Sum.inl (fun _ => 0))))] := hD
  refine va_putF hx hb (hE.lays hW0 _ (c := 5) (by decide)) (fun w hw => hw) (ab_tyf 5) (ab_ty0 (by decide)) (ab_nm0 (by decide)) hown (hE.K hW0) hP hD hS 0 rfl (ab_cls_get (by decide)) 2 (by decide) (hE.word cn_5_l28 rfl hW0 _) (fun _ z => z) rfl hin rfl (ab_ty0 (c := 5) (by decide) 2 (by decide)) rfl rfl (Nat.le_of_ble_eq_true rfl) cn_5_d42 (fun H locs hP hD hS => ?_)
  have hP : va_P (dC, dI) ab_cls [(h0, Sum.inr (5, [.ref g, .ref a, .ref b, .null, .null])), (g, Sum.inr (3, [.int 0, .ref g1, .ref g2, .ref g3, .ref g4, .ref g5])), (g1, Sum.inl (cA 0, (8, Sum.inl (fun _ => 0)))), (g2, Sum.inl (cA 0, (9, Sum.inl (fun _ => 0)))), (g3, Sum.inl (cA 0, (36, Sum.inl (fun _ => 0)))), (g4, Sum.inl (cA 1, (4, Sum.inl (fun _ => 0)))), (g5, Sum.inl (cA 0, (4, Sum.inl (fun _ => 0)))), (a, Sum.inr (0, [.int 0, .ref a1, .ref a2])), (a1, Sum.inl (cA 0, (500, Sum.inl (fun _ => 0)))), (a2, Sum.inl (cA 0, (2250, Sum.inl (fun _ => 0)))), (b, Sum.inr (1, [.ref g, .ref a, .ref b1])), (b1, Sum.inl (cA 0, (45, Sum.inl (fun _ => 0))))] H := hP
  have hD : va_D (fun q => s0.heap.size ≤ q) [(h0, Sum.inr (5, [.ref g, .ref a, .ref b, .null, .null])), (g, Sum.inr (3, [.int 0, .ref g1, .ref g2, .ref g3, .ref g4, .ref g5])), (g1, Sum.inl (cA 0, (8, Sum.inl (fun _ => 0)))), (g2, Sum.inl (cA 0, (9, Sum.inl (fun _ => 0)))), (g3, Sum.inl (cA 0, (36, Sum.inl (fun _ => 0)))), (g4, Sum.inl (cA 1, (4, Sum.inl (fun _ => 0)))), (g5, Sum.inl (cA 0, (4, Sum.inl (fun _ => 0)))), (a, Sum.inr (0, [.int 0, .ref a1, .ref a2])), (a1, Sum.inl (cA 0, (500, Sum.inl (fun _ => 0)))), (a2, Sum.inl (cA 0, (2250, Sum.inl (fun _ => 0)))), (b, Sum.inr (1, [.ref g, .ref a, .ref b1])), (b1, Sum.inl (cA 0, (45, Sum.inl (fun _ => 0))))] := hD
  refine lv_aload_n hx hb cn_5_d45 rfl (lv_at hl 0 rfl) ?_
  refine va_new (ci := 2) (fs := [.null, .null, .null]) (C := ab_cs 2) (T := ab_T 2) (N := ab_N 2) hx hb (hE.lays hW0 _ (c := 2) (by decide)) (fun w hw => hw) (ab_tyf 2) (ab_ty0 (by decide)) hown (hE.word cn_5_n2 rfl hW0 _) (hE.word cn_5_t2 rfl hW0 _) (hE.word cn_5_i2 rfl hW0 _) (hE.K hW0) hP hD hS (fun q hq => Nat.le_trans hsz hq) (ab_cls_get (by decide)) (fun j hj => by have hj : j < 3 := hj; match j, hj with | 0, _ => rfl | 1, _ => rfl | 2, _ => rfl | n + 3, h => exact absurd h (by omega)) (Nat.le_of_ble_eq_true rfl) (Nat.le_of_ble_eq_true rfl) cn_5_d46 (fun d H hP hD hS => ?_)
  have hP : va_P (dC, dI) ab_cls [(h0, Sum.inr (5, [.ref g, .ref a, .ref b, .null, .null])), (g, Sum.inr (3, [.int 0, .ref g1, .ref g2, .ref g3, .ref g4, .ref g5])), (g1, Sum.inl (cA 0, (8, Sum.inl (fun _ => 0)))), (g2, Sum.inl (cA 0, (9, Sum.inl (fun _ => 0)))), (g3, Sum.inl (cA 0, (36, Sum.inl (fun _ => 0)))), (g4, Sum.inl (cA 1, (4, Sum.inl (fun _ => 0)))), (g5, Sum.inl (cA 0, (4, Sum.inl (fun _ => 0)))), (a, Sum.inr (0, [.int 0, .ref a1, .ref a2])), (a1, Sum.inl (cA 0, (500, Sum.inl (fun _ => 0)))), (a2, Sum.inl (cA 0, (2250, Sum.inl (fun _ => 0)))), (b, Sum.inr (1, [.ref g, .ref a, .ref b1])), (b1, Sum.inl (cA 0, (45, Sum.inl (fun _ => 0)))), (d, Sum.inr (2, [.null, .null, .null]))] H := hP
  have hD : va_D (fun q => s0.heap.size ≤ q) [(h0, Sum.inr (5, [.ref g, .ref a, .ref b, .null, .null])), (g, Sum.inr (3, [.int 0, .ref g1, .ref g2, .ref g3, .ref g4, .ref g5])), (g1, Sum.inl (cA 0, (8, Sum.inl (fun _ => 0)))), (g2, Sum.inl (cA 0, (9, Sum.inl (fun _ => 0)))), (g3, Sum.inl (cA 0, (36, Sum.inl (fun _ => 0)))), (g4, Sum.inl (cA 1, (4, Sum.inl (fun _ => 0)))), (g5, Sum.inl (cA 0, (4, Sum.inl (fun _ => 0)))), (a, Sum.inr (0, [.int 0, .ref a1, .ref a2])), (a1, Sum.inl (cA 0, (500, Sum.inl (fun _ => 0)))), (a2, Sum.inl (cA 0, (2250, Sum.inl (fun _ => 0)))), (b, Sum.inr (1, [.ref g, .ref a, .ref b1])), (b1, Sum.inl (cA 0, (45, Sum.inl (fun _ => 0)))), (d, Sum.inr (2, [.null, .null, .null]))] := hD
  refine lv_dup hx hb cn_5_d49 rfl ?_
  refine lv_aload_n hx hb cn_5_d50 rfl (lv_at hl 0 rfl) ?_
  refine va_get hx hb (hE.lays hW0 _ (c := 5) (by decide)) (fun w hw => hw) hown (hE.K hW0) hP 0 rfl (ab_cls_get (by decide)) 0 (by decide) (hE.word cn_5_l12 rfl hW0 _) (fun _ z => z) rfl cn_5_d51 ?_
  refine lv_aload_n hx hb cn_5_d54 rfl (lv_at hl 0 rfl) ?_
  refine va_get hx hb (hE.lays hW0 _ (c := 5) (by decide)) (fun w hw => hw) hown (hE.K hW0) hP 0 rfl (ab_cls_get (by decide)) 1 (by decide) (hE.word cn_5_l19 rfl hW0 _) (fun _ z => z) rfl cn_5_d55 ?_
  refine ct_call (va_runI (b := d) (As := [.ref g, .ref a]) (rest := [.ref d, .ref h0]) (Ts := []) ⟨hx, hb, hml, hown, fun _ z => nomatch z⟩ (cn_2 hE [(h0, Sum.inr (5, [.ref g, .ref a, .ref b, .null, .null])), (g, Sum.inr (3, [.int 0, .ref g1, .ref g2, .ref g3, .ref g4, .ref g5])), (g1, Sum.inl (cA 0, (8, Sum.inl (fun _ => 0)))), (g2, Sum.inl (cA 0, (9, Sum.inl (fun _ => 0)))), (g3, Sum.inl (cA 0, (36, Sum.inl (fun _ => 0)))), (g4, Sum.inl (cA 1, (4, Sum.inl (fun _ => 0)))), (g5, Sum.inl (cA 0, (4, Sum.inl (fun _ => 0)))), (a, Sum.inr (0, [.int 0, .ref a1, .ref a2])), (a1, Sum.inl (cA 0, (500, Sum.inl (fun _ => 0)))), (a2, Sum.inl (cA 0, (2250, Sum.inl (fun _ => 0)))), (b, Sum.inr (1, [.ref g, .ref a, .ref b1])), (b1, Sum.inl (cA 0, (45, Sum.inl (fun _ => 0)))), (d, Sum.inr (2, [.null, .null, .null]))] 12 d g a rfl) ⟨⟨rfl, rfl, (Nat.le_of_ble_eq_true rfl), (Nat.le_of_ble_eq_true rfl), fun w hw a' U hW => by rw [List.mem_singleton.mp hw]; exact hE.word cn_2_k rfl (State.WarmedH.trans hW0 hW) a', List.mem_cons_self, hE.word cn_2_k rfl hW0 _, hE.word cn_5_i2 rfl hW0 _, ⟨by decide, by decide⟩, ct_sig 2 (by decide +kernel), hE.word cn_5_m2 rfl hW0 _⟩, rfl, hE.word cn_5_x2 rfl hW0 _⟩ ⟨ct_blind, fun U hU hW => ⟨rfl, State.WarmedH.trans hW0 hW, by rw [hU]; exact Nat.le_trans hsz hS.1, by rw [hU]; exact hP, hD⟩⟩ rfl rfl hl.1 rfl (lv_room (Nat.le_of_ble_eq_true rfl)) cn_5_d58 ⟨(Nat.le_of_ble_eq_true rfl), (Nat.le_of_ble_eq_true rfl)⟩) hS (fun ws9 H locs hpo hP hD hS => ?_)
  obtain ⟨d1, rfl⟩ := hpo
  have hP : va_P (dC, dI) ab_cls [(h0, Sum.inr (5, [.ref g, .ref a, .ref b, .null, .null])), (g, Sum.inr (3, [.int 0, .ref g1, .ref g2, .ref g3, .ref g4, .ref g5])), (g1, Sum.inl (cA 0, (8, Sum.inl (fun _ => 0)))), (g2, Sum.inl (cA 0, (9, Sum.inl (fun _ => 0)))), (g3, Sum.inl (cA 0, (36, Sum.inl (fun _ => 0)))), (g4, Sum.inl (cA 1, (4, Sum.inl (fun _ => 0)))), (g5, Sum.inl (cA 0, (4, Sum.inl (fun _ => 0)))), (a, Sum.inr (0, [.int 0, .ref a1, .ref a2])), (a1, Sum.inl (cA 0, (500, Sum.inl (fun _ => 0)))), (a2, Sum.inl (cA 0, (2250, Sum.inl (fun _ => 0)))), (b, Sum.inr (1, [.ref g, .ref a, .ref b1])), (b1, Sum.inl (cA 0, (45, Sum.inl (fun _ => 0)))), (d, Sum.inr (2, [.ref g, .ref a, .ref d1])), (d1, Sum.inl (cA 0, (4, Sum.inl (fl_f (fun _ => 0) 4 (-1)))))] H := hP
  have hD : va_D (fun q => s0.heap.size ≤ q) [(h0, Sum.inr (5, [.ref g, .ref a, .ref b, .null, .null])), (g, Sum.inr (3, [.int 0, .ref g1, .ref g2, .ref g3, .ref g4, .ref g5])), (g1, Sum.inl (cA 0, (8, Sum.inl (fun _ => 0)))), (g2, Sum.inl (cA 0, (9, Sum.inl (fun _ => 0)))), (g3, Sum.inl (cA 0, (36, Sum.inl (fun _ => 0)))), (g4, Sum.inl (cA 1, (4, Sum.inl (fun _ => 0)))), (g5, Sum.inl (cA 0, (4, Sum.inl (fun _ => 0)))), (a, Sum.inr (0, [.int 0, .ref a1, .ref a2])), (a1, Sum.inl (cA 0, (500, Sum.inl (fun _ => 0)))), (a2, Sum.inl (cA 0, (2250, Sum.inl (fun _ => 0)))), (b, Sum.inr (1, [.ref g, .ref a, .ref b1])), (b1, Sum.inl (cA 0, (45, Sum.inl (fun _ => 0)))), (d, Sum.inr (2, [.ref g, .ref a, .ref d1])), (d1, Sum.inl (cA 0, (4, Sum.inl (fl_f (fun _ => 0) 4 (-1)))))] := hD
  refine va_putF hx hb (hE.lays hW0 _ (c := 5) (by decide)) (fun w hw => hw) (ab_tyf 5) (ab_ty0 (by decide)) (ab_nm0 (by decide)) hown (hE.K hW0) hP hD hS 0 rfl (ab_cls_get (by decide)) 3 (by decide) (hE.word cn_5_l35 rfl hW0 _) (fun _ z => z) rfl hin rfl (ab_ty0 (c := 5) (by decide) 3 (by decide)) rfl rfl (Nat.le_of_ble_eq_true rfl) cn_5_d61 (fun H locs hP hD hS => ?_)
  have hP : va_P (dC, dI) ab_cls [(h0, Sum.inr (5, [.ref g, .ref a, .ref b, .ref d, .null])), (g, Sum.inr (3, [.int 0, .ref g1, .ref g2, .ref g3, .ref g4, .ref g5])), (g1, Sum.inl (cA 0, (8, Sum.inl (fun _ => 0)))), (g2, Sum.inl (cA 0, (9, Sum.inl (fun _ => 0)))), (g3, Sum.inl (cA 0, (36, Sum.inl (fun _ => 0)))), (g4, Sum.inl (cA 1, (4, Sum.inl (fun _ => 0)))), (g5, Sum.inl (cA 0, (4, Sum.inl (fun _ => 0)))), (a, Sum.inr (0, [.int 0, .ref a1, .ref a2])), (a1, Sum.inl (cA 0, (500, Sum.inl (fun _ => 0)))), (a2, Sum.inl (cA 0, (2250, Sum.inl (fun _ => 0)))), (b, Sum.inr (1, [.ref g, .ref a, .ref b1])), (b1, Sum.inl (cA 0, (45, Sum.inl (fun _ => 0)))), (d, Sum.inr (2, [.ref g, .ref a, .ref d1])), (d1, Sum.inl (cA 0, (4, Sum.inl (fl_f (fun _ => 0) 4 (-1)))))] H := hP
  have hD : va_D (fun q => s0.heap.size ≤ q) [(h0, Sum.inr (5, [.ref g, .ref a, .ref b, .ref d, .null])), (g, Sum.inr (3, [.int 0, .ref g1, .ref g2, .ref g3, .ref g4, .ref g5])), (g1, Sum.inl (cA 0, (8, Sum.inl (fun _ => 0)))), (g2, Sum.inl (cA 0, (9, Sum.inl (fun _ => 0)))), (g3, Sum.inl (cA 0, (36, Sum.inl (fun _ => 0)))), (g4, Sum.inl (cA 1, (4, Sum.inl (fun _ => 0)))), (g5, Sum.inl (cA 0, (4, Sum.inl (fun _ => 0)))), (a, Sum.inr (0, [.int 0, .ref a1, .ref a2])), (a1, Sum.inl (cA 0, (500, Sum.inl (fun _ => 0)))), (a2, Sum.inl (cA 0, (2250, Sum.inl (fun _ => 0)))), (b, Sum.inr (1, [.ref g, .ref a, .ref b1])), (b1, Sum.inl (cA 0, (45, Sum.inl (fun _ => 0)))), (d, Sum.inr (2, [.ref g, .ref a, .ref d1])), (d1, Sum.inl (cA 0, (4, Sum.inl (fl_f (fun _ => 0) 4 (-1)))))] := hD
  refine lv_aload_n hx hb cn_5_d64 rfl (lv_at hl 0 rfl) ?_
  refine va_new (ci := 4) (fs := [.null, .null, .null, .int 0, .int 0, .null, .null, .int 0, .null, .int 0]) (C := ab_cs 4) (T := ab_T 4) (N := ab_N 4) hx hb (hE.lays hW0 _ (c := 4) (by decide)) (fun w hw => hw) (ab_tyf 4) (ab_ty0 (by decide)) hown (hE.word cn_5_n4 rfl hW0 _) (hE.word cn_5_t4 rfl hW0 _) (hE.word cn_5_i4 rfl hW0 _) (hE.K hW0) hP hD hS (fun q hq => Nat.le_trans hsz hq) (ab_cls_get (by decide)) (fun j hj => by have hj : j < 10 := hj; match j, hj with | 0, _ => rfl | 1, _ => rfl | 2, _ => rfl | 3, _ => rfl | 4, _ => rfl | 5, _ => rfl | 6, _ => rfl | 7, _ => rfl | 8, _ => rfl | 9, _ => rfl | n + 10, h => exact absurd h (by omega)) (Nat.le_of_ble_eq_true rfl) (Nat.le_of_ble_eq_true rfl) cn_5_d65 (fun r H hP hD hS => ?_)
  have hP : va_P (dC, dI) ab_cls [(h0, Sum.inr (5, [.ref g, .ref a, .ref b, .ref d, .null])), (g, Sum.inr (3, [.int 0, .ref g1, .ref g2, .ref g3, .ref g4, .ref g5])), (g1, Sum.inl (cA 0, (8, Sum.inl (fun _ => 0)))), (g2, Sum.inl (cA 0, (9, Sum.inl (fun _ => 0)))), (g3, Sum.inl (cA 0, (36, Sum.inl (fun _ => 0)))), (g4, Sum.inl (cA 1, (4, Sum.inl (fun _ => 0)))), (g5, Sum.inl (cA 0, (4, Sum.inl (fun _ => 0)))), (a, Sum.inr (0, [.int 0, .ref a1, .ref a2])), (a1, Sum.inl (cA 0, (500, Sum.inl (fun _ => 0)))), (a2, Sum.inl (cA 0, (2250, Sum.inl (fun _ => 0)))), (b, Sum.inr (1, [.ref g, .ref a, .ref b1])), (b1, Sum.inl (cA 0, (45, Sum.inl (fun _ => 0)))), (d, Sum.inr (2, [.ref g, .ref a, .ref d1])), (d1, Sum.inl (cA 0, (4, Sum.inl (fl_f (fun _ => 0) 4 (-1))))), (r, Sum.inr (4, [.null, .null, .null, .int 0, .int 0, .null, .null, .int 0, .null, .int 0]))] H := hP
  have hD : va_D (fun q => s0.heap.size ≤ q) [(h0, Sum.inr (5, [.ref g, .ref a, .ref b, .ref d, .null])), (g, Sum.inr (3, [.int 0, .ref g1, .ref g2, .ref g3, .ref g4, .ref g5])), (g1, Sum.inl (cA 0, (8, Sum.inl (fun _ => 0)))), (g2, Sum.inl (cA 0, (9, Sum.inl (fun _ => 0)))), (g3, Sum.inl (cA 0, (36, Sum.inl (fun _ => 0)))), (g4, Sum.inl (cA 1, (4, Sum.inl (fun _ => 0)))), (g5, Sum.inl (cA 0, (4, Sum.inl (fun _ => 0)))), (a, Sum.inr (0, [.int 0, .ref a1, .ref a2])), (a1, Sum.inl (cA 0, (500, Sum.inl (fun _ => 0)))), (a2, Sum.inl (cA 0, (2250, Sum.inl (fun _ => 0)))), (b, Sum.inr (1, [.ref g, .ref a, .ref b1])), (b1, Sum.inl (cA 0, (45, Sum.inl (fun _ => 0)))), (d, Sum.inr (2, [.ref g, .ref a, .ref d1])), (d1, Sum.inl (cA 0, (4, Sum.inl (fl_f (fun _ => 0) 4 (-1))))), (r, Sum.inr (4, [.null, .null, .null, .int 0, .int 0, .null, .null, .int 0, .null, .int 0]))] := hD
  refine lv_dup hx hb cn_5_d68 rfl ?_
  refine lv_aload_n hx hb cn_5_d69 rfl (lv_at hl 0 rfl) ?_
  refine va_get hx hb (hE.lays hW0 _ (c := 5) (by decide)) (fun w hw => hw) hown (hE.K hW0) hP 0 rfl (ab_cls_get (by decide)) 0 (by decide) (hE.word cn_5_l12 rfl hW0 _) (fun _ z => z) rfl cn_5_d70 ?_
  refine lv_aload_n hx hb cn_5_d73 rfl (lv_at hl 0 rfl) ?_
  refine va_get hx hb (hE.lays hW0 _ (c := 5) (by decide)) (fun w hw => hw) hown (hE.K hW0) hP 0 rfl (ab_cls_get (by decide)) 1 (by decide) (hE.word cn_5_l19 rfl hW0 _) (fun _ z => z) rfl cn_5_d74 ?_
  refine ct_call (va_runI (b := r) (As := [.ref g, .ref a]) (rest := [.ref r, .ref h0]) (Ts := []) ⟨hx, hb, hml, hown, fun _ z => nomatch z⟩ (cn_4 hE [(h0, Sum.inr (5, [.ref g, .ref a, .ref b, .ref d, .null])), (g, Sum.inr (3, [.int 0, .ref g1, .ref g2, .ref g3, .ref g4, .ref g5])), (g1, Sum.inl (cA 0, (8, Sum.inl (fun _ => 0)))), (g2, Sum.inl (cA 0, (9, Sum.inl (fun _ => 0)))), (g3, Sum.inl (cA 0, (36, Sum.inl (fun _ => 0)))), (g4, Sum.inl (cA 1, (4, Sum.inl (fun _ => 0)))), (g5, Sum.inl (cA 0, (4, Sum.inl (fun _ => 0)))), (a, Sum.inr (0, [.int 0, .ref a1, .ref a2])), (a1, Sum.inl (cA 0, (500, Sum.inl (fun _ => 0)))), (a2, Sum.inl (cA 0, (2250, Sum.inl (fun _ => 0)))), (b, Sum.inr (1, [.ref g, .ref a, .ref b1])), (b1, Sum.inl (cA 0, (45, Sum.inl (fun _ => 0)))), (d, Sum.inr (2, [.ref g, .ref a, .ref d1])), (d1, Sum.inl (cA 0, (4, Sum.inl (fl_f (fun _ => 0) 4 (-1))))), (r, Sum.inr (4, [.null, .null, .null, .int 0, .int 0, .null, .null, .int 0, .null, .int 0]))] 14 r g a rfl) ⟨⟨rfl, rfl, (Nat.le_of_ble_eq_true rfl), (Nat.le_of_ble_eq_true rfl), fun w hw a' U hW => by rw [List.mem_singleton.mp hw]; exact hE.word cn_4_k rfl (State.WarmedH.trans hW0 hW) a', List.mem_cons_self, hE.word cn_4_k rfl hW0 _, hE.word cn_5_i4 rfl hW0 _, ⟨by decide, by decide⟩, ct_sig 2 (by decide +kernel), hE.word cn_5_m4 rfl hW0 _⟩, rfl, hE.word cn_5_x4 rfl hW0 _⟩ ⟨ct_blind, fun U hU hW => ⟨rfl, State.WarmedH.trans hW0 hW, by rw [hU]; exact Nat.le_trans hsz hS.1, by rw [hU]; exact hP, hD⟩⟩ rfl rfl hl.1 rfl (lv_room (Nat.le_of_ble_eq_true rfl)) cn_5_d77 ⟨(Nat.le_of_ble_eq_true rfl), (Nat.le_of_ble_eq_true rfl)⟩) hS (fun ws9 H locs hpo hP hD hS => ?_)
  obtain ⟨r1, r2, r3, r4, rfl⟩ := hpo
  have hP : va_P (dC, dI) ab_cls [(h0, Sum.inr (5, [.ref g, .ref a, .ref b, .ref d, .null])), (g, Sum.inr (3, [.int 0, .ref g1, .ref g2, .ref g3, .ref g4, .ref g5])), (g1, Sum.inl (cA 0, (8, Sum.inl (fun _ => 0)))), (g2, Sum.inl (cA 0, (9, Sum.inl (fun _ => 0)))), (g3, Sum.inl (cA 0, (36, Sum.inl (fun _ => 0)))), (g4, Sum.inl (cA 1, (4, Sum.inl (fun _ => 0)))), (g5, Sum.inl (cA 0, (4, Sum.inl (fun _ => 0)))), (a, Sum.inr (0, [.int 0, .ref a1, .ref a2])), (a1, Sum.inl (cA 0, (500, Sum.inl (fun _ => 0)))), (a2, Sum.inl (cA 0, (2250, Sum.inl (fun _ => 0)))), (b, Sum.inr (1, [.ref g, .ref a, .ref b1])), (b1, Sum.inl (cA 0, (45, Sum.inl (fun _ => 0)))), (d, Sum.inr (2, [.ref g, .ref a, .ref d1])), (d1, Sum.inl (cA 0, (4, Sum.inl (fl_f (fun _ => 0) 4 (-1))))), (r, Sum.inr (4, [.ref g, .ref a, .ref r1, .int 0, .int 0, .ref r2, .ref r3, .int 0, .ref r4, .int 0])), (r1, Sum.inl (cA 0, (20, Sum.inl (fun _ => 0)))), (r2, Sum.inl (cA 0, (61, Sum.inl (fun _ => 0)))), (r3, Sum.inl (cA 0, (61, Sum.inl (fun _ => 0)))), (r4, Sum.inl (cA 0, (300, Sum.inl (fun _ => 0))))] H := hP
  have hD : va_D (fun q => s0.heap.size ≤ q) [(h0, Sum.inr (5, [.ref g, .ref a, .ref b, .ref d, .null])), (g, Sum.inr (3, [.int 0, .ref g1, .ref g2, .ref g3, .ref g4, .ref g5])), (g1, Sum.inl (cA 0, (8, Sum.inl (fun _ => 0)))), (g2, Sum.inl (cA 0, (9, Sum.inl (fun _ => 0)))), (g3, Sum.inl (cA 0, (36, Sum.inl (fun _ => 0)))), (g4, Sum.inl (cA 1, (4, Sum.inl (fun _ => 0)))), (g5, Sum.inl (cA 0, (4, Sum.inl (fun _ => 0)))), (a, Sum.inr (0, [.int 0, .ref a1, .ref a2])), (a1, Sum.inl (cA 0, (500, Sum.inl (fun _ => 0)))), (a2, Sum.inl (cA 0, (2250, Sum.inl (fun _ => 0)))), (b, Sum.inr (1, [.ref g, .ref a, .ref b1])), (b1, Sum.inl (cA 0, (45, Sum.inl (fun _ => 0)))), (d, Sum.inr (2, [.ref g, .ref a, .ref d1])), (d1, Sum.inl (cA 0, (4, Sum.inl (fl_f (fun _ => 0) 4 (-1))))), (r, Sum.inr (4, [.ref g, .ref a, .ref r1, .int 0, .int 0, .ref r2, .ref r3, .int 0, .ref r4, .int 0])), (r1, Sum.inl (cA 0, (20, Sum.inl (fun _ => 0)))), (r2, Sum.inl (cA 0, (61, Sum.inl (fun _ => 0)))), (r3, Sum.inl (cA 0, (61, Sum.inl (fun _ => 0)))), (r4, Sum.inl (cA 0, (300, Sum.inl (fun _ => 0))))] := hD
  refine va_putF hx hb (hE.lays hW0 _ (c := 5) (by decide)) (fun w hw => hw) (ab_tyf 5) (ab_ty0 (by decide)) (ab_nm0 (by decide)) hown (hE.K hW0) hP hD hS 0 rfl (ab_cls_get (by decide)) 4 (by decide) (hE.word cn_5_l42 rfl hW0 _) (fun _ z => z) rfl hin rfl (ab_ty0 (c := 5) (by decide) 4 (by decide)) rfl rfl (Nat.le_of_ble_eq_true rfl) cn_5_d80 (fun H locs hP hD hS => ?_)
  have hP : va_P (dC, dI) ab_cls [(h0, Sum.inr (5, [.ref g, .ref a, .ref b, .ref d, .ref r])), (g, Sum.inr (3, [.int 0, .ref g1, .ref g2, .ref g3, .ref g4, .ref g5])), (g1, Sum.inl (cA 0, (8, Sum.inl (fun _ => 0)))), (g2, Sum.inl (cA 0, (9, Sum.inl (fun _ => 0)))), (g3, Sum.inl (cA 0, (36, Sum.inl (fun _ => 0)))), (g4, Sum.inl (cA 1, (4, Sum.inl (fun _ => 0)))), (g5, Sum.inl (cA 0, (4, Sum.inl (fun _ => 0)))), (a, Sum.inr (0, [.int 0, .ref a1, .ref a2])), (a1, Sum.inl (cA 0, (500, Sum.inl (fun _ => 0)))), (a2, Sum.inl (cA 0, (2250, Sum.inl (fun _ => 0)))), (b, Sum.inr (1, [.ref g, .ref a, .ref b1])), (b1, Sum.inl (cA 0, (45, Sum.inl (fun _ => 0)))), (d, Sum.inr (2, [.ref g, .ref a, .ref d1])), (d1, Sum.inl (cA 0, (4, Sum.inl (fl_f (fun _ => 0) 4 (-1))))), (r, Sum.inr (4, [.ref g, .ref a, .ref r1, .int 0, .int 0, .ref r2, .ref r3, .int 0, .ref r4, .int 0])), (r1, Sum.inl (cA 0, (20, Sum.inl (fun _ => 0)))), (r2, Sum.inl (cA 0, (61, Sum.inl (fun _ => 0)))), (r3, Sum.inl (cA 0, (61, Sum.inl (fun _ => 0)))), (r4, Sum.inl (cA 0, (300, Sum.inl (fun _ => 0))))] H := hP
  have hD : va_D (fun q => s0.heap.size ≤ q) [(h0, Sum.inr (5, [.ref g, .ref a, .ref b, .ref d, .ref r])), (g, Sum.inr (3, [.int 0, .ref g1, .ref g2, .ref g3, .ref g4, .ref g5])), (g1, Sum.inl (cA 0, (8, Sum.inl (fun _ => 0)))), (g2, Sum.inl (cA 0, (9, Sum.inl (fun _ => 0)))), (g3, Sum.inl (cA 0, (36, Sum.inl (fun _ => 0)))), (g4, Sum.inl (cA 1, (4, Sum.inl (fun _ => 0)))), (g5, Sum.inl (cA 0, (4, Sum.inl (fun _ => 0)))), (a, Sum.inr (0, [.int 0, .ref a1, .ref a2])), (a1, Sum.inl (cA 0, (500, Sum.inl (fun _ => 0)))), (a2, Sum.inl (cA 0, (2250, Sum.inl (fun _ => 0)))), (b, Sum.inr (1, [.ref g, .ref a, .ref b1])), (b1, Sum.inl (cA 0, (45, Sum.inl (fun _ => 0)))), (d, Sum.inr (2, [.ref g, .ref a, .ref d1])), (d1, Sum.inl (cA 0, (4, Sum.inl (fl_f (fun _ => 0) 4 (-1))))), (r, Sum.inr (4, [.ref g, .ref a, .ref r1, .int 0, .int 0, .ref r2, .ref r3, .int 0, .ref r4, .int 0])), (r1, Sum.inl (cA 0, (20, Sum.inl (fun _ => 0)))), (r2, Sum.inl (cA 0, (61, Sum.inl (fun _ => 0)))), (r3, Sum.inl (cA 0, (61, Sum.inl (fun _ => 0)))), (r4, Sum.inl (cA 0, (300, Sum.inl (fun _ => 0))))] := hD
  exact W.vret hx hb hr (fun t ht hW => ⟨rfl, ⟨_, ⟨g, g1, g2, g3, g4, g5, a, a1, a2, b, b1, d, d1, r, r1, r2, r3, r4, rfl⟩, by rw [ht]; exact hP, hD⟩, hS.F ht⟩) hS.2.2 cn_5_d83
end Ctors2
end
section
/-! The law's beginning: the world comes to be; from its loop on the pure machine goes. -/
/-! THE CLAIM OUT OF ONE WALK OF THE LAW'S BODY. Your part is whole_start (and what it stands on); all else here is the same for every law, but numbers. -/
def R_law : String := "ParserProofLaw"
def lw_P (b : Addr) (xs : List Int32) (args : Array Value) (s : State) : Prop := args = #[.ref b] ∧ s.IntsAt b xs ∧ xs.length ≤ 2560 ∧ (Jvm.Cond.and given_1 narrow_1).before args s = true
def lw_Q (_ : Array Value) (s : State) (o : Outcome) (t : State) : Prop := o = .returned (some (.int 1)) ∧ Framed s o t [] 1074 26742
def lw_Z (below : List Frame) (a : Array Value) (s : State) : State → Prop := fun t => ∃ o, t.status = .running ∧ Ended t below o ∧ lw_Q a s o t
/-- the law's own end, with 1 on the stack, nothing written that was there before, its room as the claim has it -/
theorem lw_ret {p : Program} {l : Launch} {e : Env} {s : State} {m : MethodId} {below : List Frame} {meth : Method} {c : Code} {b : Nat} (hx : p.tables.exec = Jvm.exec) (hb : c.code = code) (hr : meth.sig.returnType = ret) (hlocks : meth.locks = false) {pc : Nat} {H : Heap} {ls : Array Slot} (hdg : decode code pc = .ok (.ireturn, 1)) : W p l e room_1 s m #[Value.ref b] below meth c H [] 1074 26742 (lw_Z below #[Value.ref b] s) (F0 m pc ls [.int 1]) := by
  intro T hT X
  obtain ⟨fs, hret, hrun, hended, hW, hframe⟩ := X.leave (v := some (.int 1)) (hlocks := hlocks) (fun h => by rw [hr] at h; cases h)
  have hmeth' : T.vm.method? m = some meth := X.method'
  refine ⟨T.setFrames fs, ?_, .returned (some (.int 1)), hrun, hended, rfl, ⟨_, rfl⟩, hW, hframe⟩
  jvm_step X.here [X.here.top, hx, hb, hdg, hmeth', hr, ret, narrow_b1]
  (try refine ⟨rfl, ?_⟩); (try refine ⟨rfl, ?_⟩)
  first | (intro acts; rw [hret _ acts rfl rfl rfl]) | rw [hret _ _ rfl rfl rfl]
  exact Steps.refl _
/-- what holds at the law's entry: the machine, the code, the tables' words (any of lw_tbl by 'hts w (by decide +kernel)'), the script of L ints xs at the cell b, what the Statement gives of the start (any of its parts by flat_of_before) -/
def lw_At (p : Program) (s : State) (m : MethodId) (meth : Method) (c : Code) (b L : Nat) (xs : Nat → Int32) : Prop :=
  p.tables.exec = Jvm.exec ∧ c.code = code ∧ meth.sig.returnType = ret ∧ c.maxLocals = 7 ∧ s.vm.findClass R_law = some m.cls ∧ (∀ w ∈ lw_tbl, w.before #[Value.ref b] s = true) ∧ va_X b L xs s s.heap ∧ b < s.heap.size ∧ meth.locks = false ∧ (Jvm.Cond.and given_1 narrow_1).before #[Value.ref b] s = true
section Start
/-- the world's numbers when the law's loop begins -/
def ab_h0 (N : Nat) (xs : Nat → Int32) : ab_S := fun k i => if k = 38 then (if i = -1 then (N : Int) else if 0 ≤ i ∧ i < (N : Int) then (xs i.toNat).toInt else 0) else if k = 15 then (if 0 ≤ i ∧ i < 4 then -1 else 0) else if k = 6 then (if 13 ≤ i ∧ i ≤ 16 then -1 else 0) else 0
theorem st_ins : ∀ c ∈ List.range 7, Cond.instantiable (ab_cs c) (ab_N c) ∈ lw_tbl := by decide +kernel
theorem st_arr {s : State} {a : Array Value} {ty : FieldType} (h : (Cond.arrayClass ty).before a s = true) : ∃ cA : ClassId, s.vm.findClass ("[" ++ ty.toString) = some cA ∧ ArrOfT s cA ty := by
  obtain ⟨cA, kA, comp, h1, h2, h3⟩ := Cond.arrayClass_spec h
  exact ⟨cA, h1, fun n z => ⟨fun k h => (by cases h), kA, h2, comp, h3⟩⟩
theorem st_env {s : State} {a : Array Value} (hts : ∀ w ∈ lw_tbl, w.before a s = true) : ∃ (dC : Nat → ClassId) (dI : Nat → Nat → Nat) (cA : Nat → ClassId), ct_E s a dC dI cA := by
  have hk : ∀ c : Nat, ∃ q : ClassId × (Nat → Nat), c < 7 → u_Kn s (ab_cs c) (ab_T c) (ab_N c) q.1 q.2 := by
    intro c
    by_cases hc : c < 7
    · obtain ⟨cC, iS, h⟩ := u_known (T := ab_T c) (N := ab_N c) hts (fun w hw => (ab_layok c (List.mem_range.mpr hc) w hw).1) (hts _ (st_ins c (List.mem_range.mpr hc)))
      exact ⟨(cC, iS), fun _ => h⟩
    · exact ⟨(0, fun _ => 0), fun h => absurd h hc⟩
  obtain ⟨c0, e0, f0⟩ := st_arr (hts _ aw_0)
  obtain ⟨c1, e1, f1⟩ := st_arr (hts _ aw_1)
  obtain ⟨c2, e2, f2⟩ := st_arr (hts _ aw_2)
  refine ⟨fun c => (Classical.choose (hk c)).1, fun c => (Classical.choose (hk c)).2, fun t => if t = 0 then c0 else if t = 1 then c1 else c2, hts, fun c q hq => ?_, fun k q hq => ?_⟩
  · have hc : c < 7 := by
      have := (List.getElem?_eq_some_iff.mp hq).1
      simpa [ab_cls] using this
    rw [ab_cls_get hc] at hq
    cases Option.some.inj hq
    exact Classical.choose_spec (hk c) hc
  · match k, hq with
    | 0, h => cases Option.some.inj h; exact ⟨f0, e0⟩
    | 1, h => cases Option.some.inj h; exact ⟨f1, e1⟩
    | 2, h => cases Option.some.inj h; exact ⟨f2, e2⟩
    | k + 3, h => cases h
theorem sl_0 : decode code 0 = .ok (.new 8, 3) := ((ab_gdi 136).1 0 (0, .new 8, 3, 0, 0) rfl).1
theorem sl_3 : decode code 3 = .ok (.dup, 1) := ((ab_gdi 136).1 1 (3, .dup, 1, 0, 0) rfl).1
theorem sl_4 : decode code 4 = .ok (.invokespecial 49, 3) := ((ab_gdi 136).1 2 (4, .invokespecial 49, 3, 0, 0) rfl).1
theorem sl_7 : decode code 7 = .ok (.astore_n 1, 1) := ((ab_gdi 136).1 3 (7, .astore_n 1, 1, 0, 0) rfl).1
theorem sl_8 : decode code 8 = .ok (.new 50, 3) := ((ab_gdi 136).1 4 (8, .new 50, 3, 0, 0) rfl).1
theorem sl_11 : decode code 11 = .ok (.dup, 1) := ((ab_gdi 136).1 5 (11, .dup, 1, 0, 0) rfl).1
theorem sl_12 : decode code 12 = .ok (.invokespecial 52, 3) := ((ab_gdi 136).1 6 (12, .invokespecial 52, 3, 0, 0) rfl).1
theorem sl_15 : decode code 15 = .ok (.astore_n 2, 1) := ((ab_gdi 136).1 7 (15, .astore_n 2, 1, 0, 0) rfl).1
theorem sl_16 : decode code 16 = .ok (.iconst 1, 1) := ((ab_gdi 136).1 8 (16, .iconst 1, 1, 0, 0) rfl).1
theorem sl_17 : decode code 17 = .ok (.newarray .long, 2) := ((ab_gdi 136).1 9 (17, .newarray .long, 2, 0, 0) rfl).1
theorem sl_19 : decode code 19 = .ok (.astore_n 3, 1) := ((ab_gdi 136).1 10 (19, .astore_n 3, 1, 0, 0) rfl).1
theorem sl_20 : decode code 20 = .ok (.iconst 0, 1) := ((ab_gdi 136).1 11 (20, .iconst 0, 1, 0, 0) rfl).1
theorem sl_21 : decode code 21 = .ok (.istore 4, 2) := ((ab_gdi 136).1 12 (21, .istore 4, 2, 0, 0) rfl).1
theorem sw_n5 : Cond.classLink R_law 8 (ab_cs 5) ∈ lw_tbl := List.mem_append_right _ (List.mem_of_getElem? (i := 17) (by decide +kernel))
theorem sw_n6 : Cond.classLink R_law 50 (ab_cs 6) ∈ lw_tbl := List.mem_append_right _ (List.mem_of_getElem? (i := 658) (by decide +kernel))
theorem sw_m5 : Cond.methodLink R_law 49 ⟨"ParserProof", "<init>", "()V"⟩ ∈ lw_tbl := List.mem_append_right _ (List.mem_of_getElem? (i := 19) (by decide +kernel))
theorem sw_m6 : Cond.methodLink R_law 52 ⟨"ParserProofModel", "<init>", "()V"⟩ ∈ lw_tbl := List.mem_append_right _ (List.mem_of_getElem? (i := 660) (by decide +kernel))
theorem sw_x5 : Cond.instanceMethod ⟨"ParserProof", "<init>", "()V"⟩ ∈ lw_tbl := List.mem_append_right _ (List.mem_of_getElem? (i := 20) (by decide +kernel))
theorem sw_x6 : Cond.instanceMethod ⟨"ParserProofModel", "<init>", "()V"⟩ ∈ lw_tbl := List.mem_append_right _ (List.mem_of_getElem? (i := 661) (by decide +kernel))
def st_pi (k : Nat) : Nat := [0, 1, 7, 10, 12, 14, 19, 2, 3, 4, 5, 6, 8, 9, 11, 13, 15, 16, 17, 18, 20, 21, 22, 23, 24, 25, 26, 27, 28, 29, 30, 31, 32, 33, 34, 35, 36, 37].getD k 0
theorem st_pinj : ∀ i ∈ List.range 38, ∀ j ∈ List.range 38, st_pi i = st_pi j → i = j := by decide +kernel
theorem st_where (N : Nat) (xs : Nat → Int32) : fl_f (fun _ => 0) 4 (-1) = fun j : Nat => Int32.ofInt (ab_h0 N xs 15 (j : Int)) := by
  funext j
  show (if j < 4 then (-1 : Int32) else 0) = Int32.ofInt (if 0 ≤ (j : Int) ∧ (j : Int) < 4 then -1 else 0)
  by_cases h : j < 4
  · rw [if_pos h, if_pos (by omega)]
    rfl
  · rw [if_neg h, if_neg (by omega)]
    rfl
set_option maxHeartbeats 4000000 in
set_option maxRecDepth 100000 in
theorem st_key (N : Nat) (xs : Nat → Int32) (cA : Nat → ClassId) (x g g1 g2 g3 g4 g5 a a1 a2 b9 b1 d d1 r r1 r2 r3 r4 y m1 m2 m3 m4 m5 m6 m7 m8 m9 m10 m11 m12 m13 m14 m15 m16 m17 z b : Nat) : ∀ k : Nat, k < 38 → ([(x, Sum.inr (5, [.ref g, .ref a, .ref b9, .ref d, .ref r])), (g, Sum.inr (3, [.int 0, .ref g1, .ref g2, .ref g3, .ref g4, .ref g5])), (g1, Sum.inl (cA 0, (8, Sum.inl (fun _ => 0)))), (g2, Sum.inl (cA 0, (9, Sum.inl (fun _ => 0)))), (g3, Sum.inl (cA 0, (36, Sum.inl (fun _ => 0)))), (g4, Sum.inl (cA 1, (4, Sum.inl (fun _ => 0)))), (g5, Sum.inl (cA 0, (4, Sum.inl (fun _ => 0)))), (a, Sum.inr (0, [.int 0, .ref a1, .ref a2])), (a1, Sum.inl (cA 0, (500, Sum.inl (fun _ => 0)))), (a2, Sum.inl (cA 0, (2250, Sum.inl (fun _ => 0)))), (b9, Sum.inr (1, [.ref g, .ref a, .ref b1])), (b1, Sum.inl (cA 0, (45, Sum.inl (fun _ => 0)))), (d, Sum.inr (2, [.ref g, .ref a, .ref d1])), (d1, Sum.inl (cA 0, (4, Sum.inl (fl_f (fun _ => 0) 4 (-1))))), (r, Sum.inr (4, [.ref g, .ref a, .ref r1, .int 0, .int 0, .ref r2, .ref r3, .int 0, .ref r4, .int 0])), (r1, Sum.inl (cA 0, (20, Sum.inl (fun _ => 0)))), (r2, Sum.inl (cA 0, (61, Sum.inl (fun _ => 0)))), (r3, Sum.inl (cA 0, (61, Sum.inl (fun _ => 0)))), (r4, Sum.inl (cA 0, (300, Sum.inl (fun _ => 0)))), (y, Sum.inr (6, [.int 0, .int 0, .ref m1, .ref m2, .ref m3, .ref m4, .ref m5, .int 0, .ref m6, .ref m7, .ref m8, .ref m9, .int 0, .int (Int32.ofInt (-1)), .int (Int32.ofInt (-1)), .int (Int32.ofInt (-1)), .int (Int32.ofInt (-1)), .int 0, .ref m10, .int 0, .int 0, .int 0, .int 0, .ref m11, .ref m12, .ref m13, .ref m14, .ref m15, .ref m16, .ref m17])), (m1, Sum.inl (cA 0, (8, Sum.inl (fun _ => 0)))), (m2, Sum.inl (cA 0, (8, Sum.inl (fun _ => 0)))), (m3, Sum.inl (cA 0, (32, Sum.inl (fun _ => 0)))), (m4, Sum.inl (cA 1, (4, Sum.inl (fun _ => 0)))), (m5, Sum.inl (cA 1, (81, Sum.inl (fun _ => 0)))), (m6, Sum.inl (cA 1, (13500, Sum.inl (fun _ => 0)))), (m7, Sum.inl (cA 0, (500, Sum.inl (fun _ => 0)))), (m8, Sum.inl (cA 1, (270, Sum.inl (fun _ => 0)))), (m9, Sum.inl (cA 0, (270, Sum.inl (fun _ => 0)))), (m10, Sum.inl (cA 0, (20, Sum.inl (fun _ => 0)))), (m11, Sum.inl (cA 0, (61, Sum.inl (fun _ => 0)))), (m12, Sum.inl (cA 0, (61, Sum.inl (fun _ => 0)))), (m13, Sum.inl (cA 0, (60, Sum.inl (fun _ => 0)))), (m14, Sum.inl (cA 0, (60, Sum.inl (fun _ => 0)))), (m15, Sum.inl (cA 0, (60, Sum.inl (fun _ => 0)))), (m16, Sum.inl (cA 0, (60, Sum.inl (fun _ => 0)))), (m17, Sum.inl (cA 0, (60, Sum.inl (fun _ => 0)))), (z, Sum.inl (cA 2, (1, Sum.inr (Sum.inl (fun _ => 0)))))] : va_W)[st_pi k]? = some (([x, g, a, b9, d, r, y, g1, g2, g3, g4, g5, a1, a2, b1, d1, r1, r2, r3, r4, m1, m2, m3, m4, m5, m6, m7, m8, m9, m10, m11, m12, m13, m14, m15, m16, m17, z, b] : List Nat).getD k 0, ab_ce (fun k => ([x, g, a, b9, d, r, y, g1, g2, g3, g4, g5, a1, a2, b1, d1, r1, r2, r3, r4, m1, m2, m3, m4, m5, m6, m7, m8, m9, m10, m11, m12, m13, m14, m15, m16, m17, z, b] : List Nat).getD k 0) cA (ab_h0 N xs k) (ab_nd ab_lay k))
  | 0, _ => rfl
  | 1, _ => rfl
  | 2, _ => rfl
  | 3, _ => rfl
  | 4, _ => rfl
  | 5, _ => rfl
  | 6, _ => rfl
  | 7, _ => rfl
  | 8, _ => rfl
  | 9, _ => rfl
  | 10, _ => rfl
  | 11, _ => rfl
  | 12, _ => rfl
  | 13, _ => rfl
  | 14, _ => rfl
  | 15, _ => congrArg (fun f => some (d1, Sum.inl (cA 0, (4, Sum.inl f)))) (st_where N xs)
  | 16, _ => rfl
  | 17, _ => rfl
  | 18, _ => rfl
  | 19, _ => rfl
  | 20, _ => rfl
  | 21, _ => rfl
  | 22, _ => rfl
  | 23, _ => rfl
  | 24, _ => rfl
  | 25, _ => rfl
  | 26, _ => rfl
  | 27, _ => rfl
  | 28, _ => rfl
  | 29, _ => rfl
  | 30, _ => rfl
  | 31, _ => rfl
  | 32, _ => rfl
  | 33, _ => rfl
  | 34, _ => rfl
  | 35, _ => rfl
  | 36, _ => rfl
  | 37, _ => rfl
  | n + 38, h => absurd h (by omega)
end Start
end
section
/-! The law from its entry, once its loop is known on the pure machine. -/
section Law9
theorem st_th : ∀ q ∈ ab_TH, ∀ (a : Array Value) (s : State), (∀ w ∈ lw_tbl, w.before a s = true) → (Jvm.Cond.and given_1 narrow_1).before a s = true → ∃ (tx : String) (sa : Nat), vk_R (ab_cs q.1) q.2.2.1 tx sa s := by
  have key : ∀ (i : Nat) (tx : String), Cond.stringRef "ParserProof" i tx ∈ lw_tbl → Cond.exactly (.string "ParserProof" i) "java/lang/String" ∈ flatC (Jvm.Cond.and given_1 narrow_1) → ∀ (a : Array Value) (s : State), (∀ w ∈ lw_tbl, w.before a s = true) → (Jvm.Cond.and given_1 narrow_1).before a s = true → ∃ (tx : String) (sa : Nat), vk_R (ab_cs 5) i tx sa s := by
    intro i tx h1 h2 a s hts hg
    have e1 := hts _ h1
    obtain ⟨sa, -, -, -, e2, -⟩ := Cond.exactly_spec (flat_of_before _ hg _ h2)
    exact ⟨tx, sa, vk_R.of e1 e2⟩
  exact List.forall_mem_cons.mpr ⟨key 52 "no such rule" (by decide +kernel) (by decide +kernel), List.forall_mem_cons.mpr ⟨key 63 "there are 8 rules" (by decide +kernel) (by decide +kernel), List.forall_mem_cons.mpr ⟨key 76 "there are no rules" (by decide +kernel) (by decide +kernel), List.forall_mem_cons.mpr ⟨key 85 "a conflict, or too many states" (by decide +kernel) (by decide +kernel), List.forall_mem_cons.mpr ⟨key 99 "no such entry" (by decide +kernel) (by decide +kernel), List.forall_mem_cons.mpr ⟨key 138 "steps are 0 to 400" (by decide +kernel) (by decide +kernel), List.forall_mem_cons.mpr ⟨key 148 "no such node" (by decide +kernel) (by decide +kernel), List.forall_mem_cons.mpr ⟨key 151 "no such thing of a node" (by decide +kernel) (by decide +kernel), List.forall_mem_cons.mpr ⟨key 160 "there is no automaton" (by decide +kernel) (by decide +kernel), List.forall_mem_cons.mpr ⟨key 162 "no such state" (by decide +kernel) (by decide +kernel), List.forall_mem_cons.mpr ⟨key 168 "no such symbol" (by decide +kernel) (by decide +kernel), List.forall_mem_cons.mpr ⟨key 174 "no such item" (by decide +kernel) (by decide +kernel), fun _ h => absurd h List.not_mem_nil⟩⟩⟩⟩⟩⟩⟩⟩⟩⟩⟩⟩
theorem st_nc : ∀ a ∈ List.range 4, ∀ b ∈ List.range 4, a ≠ b → Cond.not (.castable (ab_xs a) (ab_xs b)) ∈ flatC (Jvm.Cond.and given_1 narrow_1) := by decide +kernel
theorem st_zu : (Cond.laysStatic Bundle.tN "UNASSIGNED_STACK" Bundle.steD ∈ lw_tbl ∧ Cond.laysStatic Bundle.tN "SUPPRESSED_SENTINEL" Bundle.listD ∈ lw_tbl) ∧ Cond.initialized Bundle.tN ∈ lw_tbl := by decide +kernel
theorem st_zr : Cond.isRef (.static Bundle.tN "UNASSIGNED_STACK" Bundle.steD) ∈ flatC (Jvm.Cond.and given_1 narrow_1) ∧ Cond.isRef (.static Bundle.tN "SUPPRESSED_SENTINEL" Bundle.listD) ∈ flatC (Jvm.Cond.and given_1 narrow_1) := by decide +kernel
theorem law_end (hpure : ∀ (N : Nat) (xs : Nat → Int32), N ≤ 2560 → X 136 13 [vR 38, vR 0, vR 6, vR 37, vI 0, vJ 0, vJ 0] [] (ab_h0 N xs) (fun o h' => o = oI 1 ∧ h' 39 0 ≤ 512)) {p : Program} {e : Env} {s : State} {m : MethodId} {below : List Frame} {meth : Method} {c : Code} (l : Launch) (htr : l.stackTraces = false) {b L : Nat} {xs : Nat → Int32} (hL : L ≤ 2560) (C0 : lw_At p s m meth c b L xs) (hex : c.exceptionTable.toList = [])
    {dC : Nat → ClassId} {dI : Nat → Nat → Nat} {cA : Nat → ClassId} (hC : ct_E s #[Value.ref b] dC dI cA) (H : Heap) (locs : List Loc) (ls : Array Slot) (ws9 : va_W) (ad : Nat → Nat) (hk2 : ∀ k : Nat, k < 38 → ws9[st_pi k]? = some (ad k, ab_ce ad cA (ab_h0 L xs k) (ab_nd ab_lay k))) (hP : va_P (dC, dI) ab_cls ws9 H) (hD : va_D (fun q => s.heap.size ≤ q) ws9) (hS : va_S (fun q => s.heap.size ≤ q) s.heap H locs)
    (a38 : ad 38 = b) (hl : lv_has ls 7 [(4, .int 0), (3, .ref (ad 37)), (2, .ref (ad 6)), (1, .ref (ad 0)), (0, .ref b)]) :
    W p l e room_1 s m #[Value.ref b] below meth c H locs 38 18478 (lw_Z below #[Value.ref b] s) (F0 m 23 ls []) := by
  obtain ⟨hx, hb, hr, hml, hown, hts, hX, hbl, hlocks, hgv⟩ := C0
  have hW0 : s.WarmedH s.vm := State.WarmedH.refl s
  have hlen : ∀ h : ab_S, (ab_wl ad cA h).length = 38 := fun h => (ab_wr_len _ _).trans ab_lay_len
  have hPw : va_P (dC, dI) ab_cls (ab_wl ad cA (ab_h0 L xs)) H := by
    intro k q hq
    have hk : k < 38 := by rw [← hlen (ab_h0 L xs)]; exact (List.getElem?_eq_some_iff.mp hq).1
    rw [ab_wl_get hk] at hq
    cases Option.some.inj hq
    exact hP _ _ (hk2 k hk)
  have hDw : va_D (fun q => s.heap.size ≤ q) (ab_wl ad cA (fun _ _ => 0)) := by
    have ge : ∀ (k : Nat) (q : Nat × va_E), (ab_wl ad cA (fun _ _ => 0))[k]? = some q → k < 38 ∧ q.1 = ad k := by
      intro k q hq
      have hk : k < 38 := by rw [← hlen (fun _ _ => 0)]; exact (List.getElem?_eq_some_iff.mp hq).1
      rw [ab_wl_get hk] at hq
      cases Option.some.inj hq
      exact ⟨hk, rfl⟩
    refine ⟨fun i j p q hp hq e => ?_, fun k q hq => ?_⟩
    · obtain ⟨hi, ei⟩ := ge i p hp
      obtain ⟨hj, ej⟩ := ge j q hq
      exact st_pinj i (List.mem_range.mpr hi) j (List.mem_range.mpr hj) (hD.1 _ _ _ _ (hk2 i hi) (hk2 j hj) (by show ad i = ad j; rw [← ei, ← ej]; exact e))
    · obtain ⟨hk, ek⟩ := ge k q hq
      rw [ek]
      exact hD.2 _ _ (hk2 k hk)
  have hE : ab_E l s #[Value.ref b] ad dC dI cA L xs := by
    have hfl := flat_of_before _ hgv
    refine ⟨htr, hts, hDw, hC.2, by rw [a38]; exact hbl, by rw [a38]; exact hX, by omega, ?_, ?_, fun q hq => st_th q hq _ s hts hgv, fun i hi j hj hne => va_Nc.of (hfl _ (st_nc i hi j hj hne))⟩
    · exact vx_Zqof (hts _ st_zu.1.1) (hts _ st_zu.2) (hfl _ st_zr.1) (fun q hq => Nat.not_le.mpr hq)
    · exact vx_Zqof (hts _ st_zu.1.2) (hts _ st_zu.2) (hfl _ st_zr.2) (fun q hq => Nat.not_le.mpr hq)
  obtain ⟨o9, h9, hlr, rfl, hcnt⟩ := hpure L xs hL
  have hMM := ab_sound hE hlr
  have hro : ab_ro L xs (ab_h0 L xs) := by
    refine ⟨fun k j hk => ?_, rfl, fun j hj => ?_⟩
    · unfold ab_h0
      split
      · split
        · exact ⟨by omega, by omega⟩
        · split
          · exact i3_rg _
          · exact ⟨by decide, by decide⟩
      · split
        · split
          · exact ⟨by decide, by decide⟩
          · exact ⟨by decide, by decide⟩
        · split
          · split
            · exact ⟨by decide, by decide⟩
            · exact ⟨by decide, by decide⟩
          · exact ⟨by decide, by decide⟩
    · unfold ab_h0
      rw [if_pos rfl, if_neg (by omega), if_pos (by omega)]
      rfl
  have hls : ab_lsr ad (ab_ml 136) [vR 38, vR 0, vR 6, vR 37, vI 0, vJ 0, vJ 0] ls := by
    refine ⟨hl.1, hl.2.1, rfl, fun k v hk hv => ?_⟩
    match k, hk with
    | 0, h => cases Option.some.inj h; show ls[0]? = some (.val (.ref (ad 38))); rw [a38]; exact lv_at hl 4 rfl
    | 1, h => cases Option.some.inj h; show ls[1]? = some (.val (.ref (ad 0))); exact lv_at hl 3 rfl
    | 2, h => cases Option.some.inj h; show ls[2]? = some (.val (.ref (ad 6))); exact lv_at hl 2 rfl
    | 3, h => cases Option.some.inj h; show ls[3]? = some (.val (.ref (ad 37))); exact lv_at hl 1 rfl
    | 4, h => cases Option.some.inj h; exact lv_at hl 0 rfl
    | 5, h => exact absurd (Option.some.inj h).symm (hv 0)
    | 6, h => exact absurd (Option.some.inj h).symm (hv 0)
    | k + 7, h => cases h
  have hk512 : ab_k (ab_h0 L xs) h9 ≤ 512 := by
    have e0 : ab_h0 L xs 39 0 = 0 := rfl
    unfold ab_k
    omega
  have hcx : ab_cx s 136 p room_1 s m meth c := ⟨hx, hb, hml, hr, hlocks, hex, hown, hW0, ⟨Nat.le_refl _, fun _ _ => rfl⟩, (Nat.le_of_ble_eq_true rfl), (Nat.le_of_ble_eq_true rfl)⟩
  have w := hMM.2 p e room_1 s m #[Value.ref b] below meth c H locs 38 18478 ls 23 hcx (by show 38 + _ ≤ 1074; omega) (by show 18478 + _ ≤ 26742; omega) rfl hro hPw hS hls (by
    intro v hv
    simp only [List.mem_cons, List.not_mem_nil, or_false] at hv
    rcases hv with rfl | rfl | rfl | rfl | rfl | rfl | rfl
    all_goals first | trivial | exact (show ab_rg 0 from ⟨by decide, by decide⟩)) (fun _ z => nomatch z)
  intro T hT X
  obtain ⟨t, st, oc, hrun, hend, hq⟩ := w T hT X
  refine ⟨t, st, oc, hrun, hend, ?_⟩
  rcases hq with ⟨⟨r, er, eo, -⟩, Lq, hfe, hLq⟩ | ⟨q, -, E, ce, Lq, ⟨x9, ex, -⟩, -⟩
  · cases er
    subst eo
    refine ⟨rfl, ⟨_, rfl⟩, hfe.2.1, ?_⟩
    exact hfe.2.2.weaken (fun y hy hlt => absurd hlt (Nat.not_lt.mpr (hLq y hy))) (by omega) (by omega)
  · cases ex
theorem st_shape (cA : Nat → ClassId) (ws : va_W) (h0 q1 q2 q3 q4 q5 q6 q7 q8 q9 q10 q11 q12 q13 q14 q15 q16 q17 : Nat) : (((((((((((((((((((((((((((((((((((((((ws ++ ([(h0, Sum.inr (6, [.int 0, .int 0, .null, .null, .null, .null, .null, .int 0, .null, .null, .null, .null, .int 0, .int 0, .int 0, .int 0, .int 0, .int 0, .null, .int 0, .int 0, .int 0, .int 0, .null, .null, .null, .null, .null, .null, .null]))] : va_W)) ++ [ct_ar q1 (cA 0) 8]).set ws.length (h0, Sum.inr (6, [.int 0, .int 0, .ref q1, .null, .null, .null, .null, .int 0, .null, .null, .null, .null, .int 0, .int 0, .int 0, .int 0, .int 0, .int 0, .null, .int 0, .int 0, .int 0, .int 0, .null, .null, .null, .null, .null, .null, .null]))) ++ [ct_ar q2 (cA 0) 8]).set ws.length (h0, Sum.inr (6, [.int 0, .int 0, .ref q1, .ref q2, .null, .null, .null, .int 0, .null, .null, .null, .null, .int 0, .int 0, .int 0, .int 0, .int 0, .int 0, .null, .int 0, .int 0, .int 0, .int 0, .null, .null, .null, .null, .null, .null, .null]))) ++ [ct_ar q3 (cA 0) 32]).set ws.length (h0, Sum.inr (6, [.int 0, .int 0, .ref q1, .ref q2, .ref q3, .null, .null, .int 0, .null, .null, .null, .null, .int 0, .int 0, .int 0, .int 0, .int 0, .int 0, .null, .int 0, .int 0, .int 0, .int 0, .null, .null, .null, .null, .null, .null, .null]))) ++ [ct_ar q4 (cA 1) 4]).set ws.length (h0, Sum.inr (6, [.int 0, .int 0, .ref q1, .ref q2, .ref q3, .ref q4, .null, .int 0, .null, .null, .null, .null, .int 0, .int 0, .int 0, .int 0, .int 0, .int 0, .null, .int 0, .int 0, .int 0, .int 0, .null, .null, .null, .null, .null, .null, .null]))) ++ [ct_ar q5 (cA 1) 81]).set ws.length (h0, Sum.inr (6, [.int 0, .int 0, .ref q1, .ref q2, .ref q3, .ref q4, .ref q5, .int 0, .null, .null, .null, .null, .int 0, .int 0, .int 0, .int 0, .int 0, .int 0, .null, .int 0, .int 0, .int 0, .int 0, .null, .null, .null, .null, .null, .null, .null]))) ++ [ct_ar q6 (cA 1) 13500]).set ws.length (h0, Sum.inr (6, [.int 0, .int 0, .ref q1, .ref q2, .ref q3, .ref q4, .ref q5, .int 0, .ref q6, .null, .null, .null, .int 0, .int 0, .int 0, .int 0, .int 0, .int 0, .null, .int 0, .int 0, .int 0, .int 0, .null, .null, .null, .null, .null, .null, .null]))) ++ [ct_ar q7 (cA 0) 500]).set ws.length (h0, Sum.inr (6, [.int 0, .int 0, .ref q1, .ref q2, .ref q3, .ref q4, .ref q5, .int 0, .ref q6, .ref q7, .null, .null, .int 0, .int 0, .int 0, .int 0, .int 0, .int 0, .null, .int 0, .int 0, .int 0, .int 0, .null, .null, .null, .null, .null, .null, .null]))) ++ [ct_ar q8 (cA 1) 270]).set ws.length (h0, Sum.inr (6, [.int 0, .int 0, .ref q1, .ref q2, .ref q3, .ref q4, .ref q5, .int 0, .ref q6, .ref q7, .ref q8, .null, .int 0, .int 0, .int 0, .int 0, .int 0, .int 0, .null, .int 0, .int 0, .int 0, .int 0, .null, .null, .null, .null, .null, .null, .null]))) ++ [ct_ar q9 (cA 0) 270]).set ws.length (h0, Sum.inr (6, [.int 0, .int 0, .ref q1, .ref q2, .ref q3, .ref q4, .ref q5, .int 0, .ref q6, .ref q7, .ref q8, .ref q9, .int 0, .int 0, .int 0, .int 0, .int 0, .int 0, .null, .int 0, .int 0, .int 0, .int 0, .null, .null, .null, .null, .null, .null, .null]))).set ws.length (h0, Sum.inr (6, [.int 0, .int 0, .ref q1, .ref q2, .ref q3, .ref q4, .ref q5, .int 0, .ref q6, .ref q7, .ref q8, .ref q9, .int 0, .int (Int32.ofInt (-1)), .int 0, .int 0, .int 0, .int 0, .null, .int 0, .int 0, .int 0, .int 0, .null, .null, .null, .null, .null, .null, .null]))).set ws.length (h0, Sum.inr (6, [.int 0, .int 0, .ref q1, .ref q2, .ref q3, .ref q4, .ref q5, .int 0, .ref q6, .ref q7, .ref q8, .ref q9, .int 0, .int (Int32.ofInt (-1)), .int (Int32.ofInt (-1)), .int 0, .int 0, .int 0, .null, .int 0, .int 0, .int 0, .int 0, .null, .null, .null, .null, .null, .null, .null]))).set ws.length (h0, Sum.inr (6, [.int 0, .int 0, .ref q1, .ref q2, .ref q3, .ref q4, .ref q5, .int 0, .ref q6, .ref q7, .ref q8, .ref q9, .int 0, .int (Int32.ofInt (-1)), .int (Int32.ofInt (-1)), .int (Int32.ofInt (-1)), .int 0, .int 0, .null, .int 0, .int 0, .int 0, .int 0, .null, .null, .null, .null, .null, .null, .null]))).set ws.length (h0, Sum.inr (6, [.int 0, .int 0, .ref q1, .ref q2, .ref q3, .ref q4, .ref q5, .int 0, .ref q6, .ref q7, .ref q8, .ref q9, .int 0, .int (Int32.ofInt (-1)), .int (Int32.ofInt (-1)), .int (Int32.ofInt (-1)), .int (Int32.ofInt (-1)), .int 0, .null, .int 0, .int 0, .int 0, .int 0, .null, .null, .null, .null, .null, .null, .null]))) ++ [ct_ar q10 (cA 0) 20]).set ws.length (h0, Sum.inr (6, [.int 0, .int 0, .ref q1, .ref q2, .ref q3, .ref q4, .ref q5, .int 0, .ref q6, .ref q7, .ref q8, .ref q9, .int 0, .int (Int32.ofInt (-1)), .int (Int32.ofInt (-1)), .int (Int32.ofInt (-1)), .int (Int32.ofInt (-1)), .int 0, .ref q10, .int 0, .int 0, .int 0, .int 0, .null, .null, .null, .null, .null, .null, .null]))) ++ [ct_ar q11 (cA 0) 61]).set ws.length (h0, Sum.inr (6, [.int 0, .int 0, .ref q1, .ref q2, .ref q3, .ref q4, .ref q5, .int 0, .ref q6, .ref q7, .ref q8, .ref q9, .int 0, .int (Int32.ofInt (-1)), .int (Int32.ofInt (-1)), .int (Int32.ofInt (-1)), .int (Int32.ofInt (-1)), .int 0, .ref q10, .int 0, .int 0, .int 0, .int 0, .ref q11, .null, .null, .null, .null, .null, .null]))) ++ [ct_ar q12 (cA 0) 61]).set ws.length (h0, Sum.inr (6, [.int 0, .int 0, .ref q1, .ref q2, .ref q3, .ref q4, .ref q5, .int 0, .ref q6, .ref q7, .ref q8, .ref q9, .int 0, .int (Int32.ofInt (-1)), .int (Int32.ofInt (-1)), .int (Int32.ofInt (-1)), .int (Int32.ofInt (-1)), .int 0, .ref q10, .int 0, .int 0, .int 0, .int 0, .ref q11, .ref q12, .null, .null, .null, .null, .null]))) ++ [ct_ar q13 (cA 0) 60]).set ws.length (h0, Sum.inr (6, [.int 0, .int 0, .ref q1, .ref q2, .ref q3, .ref q4, .ref q5, .int 0, .ref q6, .ref q7, .ref q8, .ref q9, .int 0, .int (Int32.ofInt (-1)), .int (Int32.ofInt (-1)), .int (Int32.ofInt (-1)), .int (Int32.ofInt (-1)), .int 0, .ref q10, .int 0, .int 0, .int 0, .int 0, .ref q11, .ref q12, .ref q13, .null, .null, .null, .null]))) ++ [ct_ar q14 (cA 0) 60]).set ws.length (h0, Sum.inr (6, [.int 0, .int 0, .ref q1, .ref q2, .ref q3, .ref q4, .ref q5, .int 0, .ref q6, .ref q7, .ref q8, .ref q9, .int 0, .int (Int32.ofInt (-1)), .int (Int32.ofInt (-1)), .int (Int32.ofInt (-1)), .int (Int32.ofInt (-1)), .int 0, .ref q10, .int 0, .int 0, .int 0, .int 0, .ref q11, .ref q12, .ref q13, .ref q14, .null, .null, .null]))) ++ [ct_ar q15 (cA 0) 60]).set ws.length (h0, Sum.inr (6, [.int 0, .int 0, .ref q1, .ref q2, .ref q3, .ref q4, .ref q5, .int 0, .ref q6, .ref q7, .ref q8, .ref q9, .int 0, .int (Int32.ofInt (-1)), .int (Int32.ofInt (-1)), .int (Int32.ofInt (-1)), .int (Int32.ofInt (-1)), .int 0, .ref q10, .int 0, .int 0, .int 0, .int 0, .ref q11, .ref q12, .ref q13, .ref q14, .ref q15, .null, .null]))) ++ [ct_ar q16 (cA 0) 60]).set ws.length (h0, Sum.inr (6, [.int 0, .int 0, .ref q1, .ref q2, .ref q3, .ref q4, .ref q5, .int 0, .ref q6, .ref q7, .ref q8, .ref q9, .int 0, .int (Int32.ofInt (-1)), .int (Int32.ofInt (-1)), .int (Int32.ofInt (-1)), .int (Int32.ofInt (-1)), .int 0, .ref q10, .int 0, .int 0, .int 0, .int 0, .ref q11, .ref q12, .ref q13, .ref q14, .ref q15, .ref q16, .null]))) ++ [ct_ar q17 (cA 0) 60]).set ws.length (h0, Sum.inr (6, [.int 0, .int 0, .ref q1, .ref q2, .ref q3, .ref q4, .ref q5, .int 0, .ref q6, .ref q7, .ref q8, .ref q9, .int 0, .int (Int32.ofInt (-1)), .int (Int32.ofInt (-1)), .int (Int32.ofInt (-1)), .int (Int32.ofInt (-1)), .int 0, .ref q10, .int 0, .int 0, .int 0, .int 0, .ref q11, .ref q12, .ref q13, .ref q14, .ref q15, .ref q16, .ref q17]))) = ws ++ ([(h0, Sum.inr (6, [.int 0, .int 0, .ref q1, .ref q2, .ref q3, .ref q4, .ref q5, .int 0, .ref q6, .ref q7, .ref q8, .ref q9, .int 0, .int (Int32.ofInt (-1)), .int (Int32.ofInt (-1)), .int (Int32.ofInt (-1)), .int (Int32.ofInt (-1)), .int 0, .ref q10, .int 0, .int 0, .int 0, .int 0, .ref q11, .ref q12, .ref q13, .ref q14, .ref q15, .ref q16, .ref q17])), (q1, Sum.inl (cA 0, (8, Sum.inl (fun _ => 0)))), (q2, Sum.inl (cA 0, (8, Sum.inl (fun _ => 0)))), (q3, Sum.inl (cA 0, (32, Sum.inl (fun _ => 0)))), (q4, Sum.inl (cA 1, (4, Sum.inl (fun _ => 0)))), (q5, Sum.inl (cA 1, (81, Sum.inl (fun _ => 0)))), (q6, Sum.inl (cA 1, (13500, Sum.inl (fun _ => 0)))), (q7, Sum.inl (cA 0, (500, Sum.inl (fun _ => 0)))), (q8, Sum.inl (cA 1, (270, Sum.inl (fun _ => 0)))), (q9, Sum.inl (cA 0, (270, Sum.inl (fun _ => 0)))), (q10, Sum.inl (cA 0, (20, Sum.inl (fun _ => 0)))), (q11, Sum.inl (cA 0, (61, Sum.inl (fun _ => 0)))), (q12, Sum.inl (cA 0, (61, Sum.inl (fun _ => 0)))), (q13, Sum.inl (cA 0, (60, Sum.inl (fun _ => 0)))), (q14, Sum.inl (cA 0, (60, Sum.inl (fun _ => 0)))), (q15, Sum.inl (cA 0, (60, Sum.inl (fun _ => 0)))), (q16, Sum.inl (cA 0, (60, Sum.inl (fun _ => 0)))), (q17, Sum.inl (cA 0, (60, Sum.inl (fun _ => 0))))] : va_W) := by
  simp only [List.append_assoc, List.cons_append, List.nil_append, List.set_append_right, Nat.le_refl, Nat.sub_self, List.set_cons_zero]
theorem st_fs6 : ∀ j ∈ List.range 30, defaultValue (ab_tyf 6 j) = vp_V [.int 0, .int 0, .null, .null, .null, .null, .null, .int 0, .null, .null, .null, .null, .int 0, .int 0, .int 0, .int 0, .int 0, .int 0, .null, .int 0, .int 0, .int 0, .int 0, .null, .null, .null, .null, .null, .null, .null] j := by decide +kernel
set_option maxHeartbeats 600000 in
set_option maxRecDepth 100000 in
theorem law_mid (hpure : ∀ (N : Nat) (xs : Nat → Int32), N ≤ 2560 → X 136 13 [vR 38, vR 0, vR 6, vR 37, vI 0, vJ 0, vJ 0] [] (ab_h0 N xs) (fun o h' => o = oI 1 ∧ h' 39 0 ≤ 512)) {p : Program} {e : Env} {s : State} {m : MethodId} {below : List Frame} {meth : Method} {c : Code} (l : Launch) (htr : l.stackTraces = false) {b L : Nat} {xs : Nat → Int32} (hL : L ≤ 2560) (C0 : lw_At p s m meth c b L xs) (hex : c.exceptionTable.toList = [])
    {dC : Nat → ClassId} {dI : Nat → Nat → Nat} {cA : Nat → ClassId} (hC : ct_E s #[Value.ref b] dC dI cA) (H : Heap) (locs : List Loc) (ls : Array Slot) (W5 : va_W) (x : Nat) (hP : va_P (dC, dI) ab_cls W5 H) (hD : va_D (fun q => s.heap.size ≤ q) W5) (hS : va_S (fun q => s.heap.size ≤ q) s.heap H locs) (hl : lv_has ls 7 [(1, .ref x), (0, .ref b)])
    (hkey : ∀ y m1 m2 m3 m4 m5 m6 m7 m8 m9 m10 m11 m12 m13 m14 m15 m16 m17 z : Nat, ∃ ad : Nat → Nat, ad 38 = b ∧ ad 37 = z ∧ ad 6 = y ∧ ad 0 = x ∧ ∀ k : Nat, k < 38 → (W5 ++ ([(y, Sum.inr (6, [.int 0, .int 0, .ref m1, .ref m2, .ref m3, .ref m4, .ref m5, .int 0, .ref m6, .ref m7, .ref m8, .ref m9, .int 0, .int (Int32.ofInt (-1)), .int (Int32.ofInt (-1)), .int (Int32.ofInt (-1)), .int (Int32.ofInt (-1)), .int 0, .ref m10, .int 0, .int 0, .int 0, .int 0, .ref m11, .ref m12, .ref m13, .ref m14, .ref m15, .ref m16, .ref m17])), (m1, Sum.inl (cA 0, (8, Sum.inl (fun _ => 0)))), (m2, Sum.inl (cA 0, (8, Sum.inl (fun _ => 0)))), (m3, Sum.inl (cA 0, (32, Sum.inl (fun _ => 0)))), (m4, Sum.inl (cA 1, (4, Sum.inl (fun _ => 0)))), (m5, Sum.inl (cA 1, (81, Sum.inl (fun _ => 0)))), (m6, Sum.inl (cA 1, (13500, Sum.inl (fun _ => 0)))), (m7, Sum.inl (cA 0, (500, Sum.inl (fun _ => 0)))), (m8, Sum.inl (cA 1, (270, Sum.inl (fun _ => 0)))), (m9, Sum.inl (cA 0, (270, Sum.inl (fun _ => 0)))), (m10, Sum.inl (cA 0, (20, Sum.inl (fun _ => 0)))), (m11, Sum.inl (cA 0, (61, Sum.inl (fun _ => 0)))), (m12, Sum.inl (cA 0, (61, Sum.inl (fun _ => 0)))), (m13, Sum.inl (cA 0, (60, Sum.inl (fun _ => 0)))), (m14, Sum.inl (cA 0, (60, Sum.inl (fun _ => 0)))), (m15, Sum.inl (cA 0, (60, Sum.inl (fun _ => 0)))), (m16, Sum.inl (cA 0, (60, Sum.inl (fun _ => 0)))), (m17, Sum.inl (cA 0, (60, Sum.inl (fun _ => 0)))), (z, Sum.inl (cA 2, (1, Sum.inr (Sum.inl (fun _ => 0)))))] : va_W))[st_pi k]? = some (ad k, ab_ce ad cA (ab_h0 L xs k) (ab_nd ab_lay k))) :
    W p l e room_1 s m #[Value.ref b] below meth c H locs 19 3332 (lw_Z below #[Value.ref b] s) (F0 m 8 ls []) := by
  have C0' := C0
  obtain ⟨hx, hb, hr, hml, hown, hts, hX, hbl, hlocks, hgv⟩ := C0
  have hW0 : s.WarmedH s.vm := State.WarmedH.refl s
  have e6 : ab_N 6 = 30 := rfl
  refine va_new (ci := 6) (fs := [.int 0, .int 0, .null, .null, .null, .null, .null, .int 0, .null, .null, .null, .null, .int 0, .int 0, .int 0, .int 0, .int 0, .int 0, .null, .int 0, .int 0, .int 0, .int 0, .null, .null, .null, .null, .null, .null, .null]) (C := ab_cs 6) (T := ab_T 6) (N := ab_N 6) hx hb (hC.lays hW0 _ (c := 6) (by decide)) (fun w hw => hw) (ab_tyf 6) (ab_ty0 (by decide)) hown (hC.word sw_n6 rfl hW0 _) (hC.word (st_ins 6 (by decide)) rfl hW0 _) (hC.word (ab_iniok 6 (by decide)) rfl hW0 _) (hC.K hW0) hP hD hS (fun q hq => hq) (ab_cls_get (by decide)) (fun j hj => st_fs6 j (List.mem_range.mpr hj)) (by show 19 + 1 ≤ 1074; omega) (by show 3332 + ab_N 6 ≤ 26742; omega) sl_8 (fun y H hP hD hS => ?_)
  refine W.widen (k := 20) (n := 3362) (by omega) (by omega) ?_
  refine lv_dup hx hb sl_11 rfl ?_
  refine ct_call (s0 := s) (va_runI (b := y) (As := []) (rest := [.ref y]) (Ts := []) ⟨hx, hb, hml, hown, fun _ z => nomatch z⟩ (cn_6 hC (W5 ++ ([(y, Sum.inr (6, [.int 0, .int 0, .null, .null, .null, .null, .null, .int 0, .null, .null, .null, .null, .int 0, .int 0, .int 0, .int 0, .int 0, .int 0, .null, .int 0, .int 0, .int 0, .int 0, .null, .null, .null, .null, .null, .null, .null]))] : va_W)) W5.length y (by rw [List.getElem?_append_right (Nat.le_refl _), Nat.sub_self]; rfl)) ⟨⟨rfl, rfl, (Nat.le_of_ble_eq_true rfl), (Nat.le_of_ble_eq_true rfl), fun w hw a' U hW => by rw [List.mem_singleton.mp hw]; exact hC.word cn_6_k rfl (State.WarmedH.trans hW0 hW) a', List.mem_cons_self, hC.word cn_6_k rfl hW0 _, hC.word (ab_iniok 6 (by decide)) rfl hW0 _, ⟨by decide, by decide⟩, ct_sig 0 (by decide +kernel), hC.word sw_m6 rfl hW0 _⟩, rfl, hC.word sw_x6 rfl hW0 _⟩ ⟨ct_blind, fun U hU hW => ⟨rfl, State.WarmedH.trans hW0 hW, by rw [hU]; exact hS.1, by rw [hU]; exact hP, hD⟩⟩ rfl rfl hl.1 rfl (lv_room (Nat.le_of_ble_eq_true rfl)) sl_12 ⟨by show 37 ≤ 1074; omega, by show 18477 ≤ 26742; omega⟩) hS (fun ws9 H locs hpo hP hD hS => ?_)
  refine W.widen (k := 37) (n := 18477) (by omega) (by omega) ?_
  obtain ⟨m1, m2, m3, m4, m5, m6, m7, m8, m9, m10, m11, m12, m13, m14, m15, m16, m17, hpo⟩ := hpo
  have hpo := hpo.trans (st_shape cA W5 y m1 m2 m3 m4 m5 m6 m7 m8 m9 m10 m11 m12 m13 m14 m15 m16 m17)
  subst hpo
  refine lv_astore_n hx hb sl_15 rfl hl (by decide) rfl (fun ls hl => ?_)
  have hl : lv_has ls 7 [(2, .ref y), (1, .ref x), (0, .ref b)] := hl
  refine lv_iconst (v := 1) hx hb sl_16 rfl ?_
  refine va_newa (atype := .long) (n := 1) (a0 := (1, .inr (.inl (fun _ => 0)))) (N' := 1) (ty := .long) hx hb (hC.word aw_2 rfl hW0 _) rfl (hC.K hW0) hP hD hS (fun q hq => hq) (fun cA => by rw [vp_cell_l]; rfl) (by decide) rfl (by decide) (by show 37 + 1 ≤ 1074; omega) (by show 18477 + 1 ≤ 26742; omega) sl_17 (fun z c9 H hK1 hP hD hS => ?_)
  have e9 := ct_ra (t := 0) (tk := 2) hC hW0 rfl hK1
  subst e9
  rw [List.append_assoc] at hP hD
  refine lv_astore_n hx hb sl_19 rfl hl (by decide) rfl (fun ls hl => ?_)
  refine lv_iconst (v := 0) hx hb sl_20 rfl ?_
  refine lv_istore hx hb sl_21 hl (by decide) rfl (fun ls hl => ?_)
  have hl : lv_has ls 7 [(4, .int 0), (3, .ref z), (2, .ref y), (1, .ref x), (0, .ref b)] := hl
  obtain ⟨ad, a38, a37, a6, a0, hk2⟩ := hkey y m1 m2 m3 m4 m5 m6 m7 m8 m9 m10 m11 m12 m13 m14 m15 m16 m17 z
  refine W.widen (k := 38) (n := 18478) (by omega) (by omega) ?_
  exact law_end hpure l htr hL C0' hex hC H locs ls _ ad hk2 hP hD hS a38 (by rw [a37, a6, a0]; exact hl)
set_option maxHeartbeats 600000 in
set_option maxRecDepth 100000 in
theorem law_start (hpure : ∀ (N : Nat) (xs : Nat → Int32), N ≤ 2560 → X 136 13 [vR 38, vR 0, vR 6, vR 37, vI 0, vJ 0, vJ 0] [] (ab_h0 N xs) (fun o h' => o = oI 1 ∧ h' 39 0 ≤ 512)) {p : Program} {e : Env} {s : State} {m : MethodId} {below : List Frame} {meth : Method} {c : Code} (l : Launch) (htr : l.stackTraces = false) {b L : Nat} {xs : Nat → Int32} (hL : L ≤ 2560) (C0 : lw_At p s m meth c b L xs) (hex : c.exceptionTable.toList = []) :
    W p l e room_1 s m #[Value.ref b] below meth c s.heap [] 0 0 (lw_Z below #[Value.ref b] s) (entryFrame m ([Value.ref b] : List Value).toArray 7) := by
  have C0' := C0
  obtain ⟨hx, hb, hr, hml, hown, hts, hX, hbl, hlocks, hgv⟩ := C0
  obtain ⟨dC, dI, cA, hC⟩ := st_env hts
  have e5 : ab_N 5 = 5 := rfl
  have hW0 : s.WarmedH s.vm := State.WarmedH.refl s
  have hl := lv_entry ([.ref b]) (n := 7) (Nat.le_of_ble_eq_true rfl)
  rw [lg_entry_eq]
  generalize (lg_sl ([.ref b]) ++ List.replicate (7 - (lg_sl ([.ref b])).length) Slot.unset).toArray = ls at hl ⊢
  have hl : lv_has ls 7 [(0, .ref b)] := hl
  have hP : va_P (dC, dI) ab_cls [] s.heap := fun k q hq => nomatch hq
  have hD : va_D (fun q => s.heap.size ≤ q) [] := ⟨fun i j p q hp => (nomatch hp), fun k q hq => nomatch hq⟩
  have hS : va_S (fun q => s.heap.size ≤ q) s.heap s.heap [] := va_S.rf
  refine va_new (ci := 5) (fs := [.null, .null, .null, .null, .null]) (C := ab_cs 5) (T := ab_T 5) (N := ab_N 5) hx hb (hC.lays hW0 _ (c := 5) (by decide)) (fun w hw => hw) (ab_tyf 5) (ab_ty0 (by decide)) hown (hC.word sw_n5 rfl hW0 _) (hC.word (st_ins 5 (by decide)) rfl hW0 _) (hC.word (ab_iniok 5 (by decide)) rfl hW0 _) (hC.K hW0) hP hD hS (fun q hq => hq) (ab_cls_get (by decide)) (fun j hj => by have hj : j < 5 := hj; match j, hj with | 0, _ => rfl | 1, _ => rfl | 2, _ => rfl | 3, _ => rfl | 4, _ => rfl | n + 5, h => exact absurd h (by omega)) (by show 0 + 1 ≤ 1074; omega) (by show 0 + ab_N 5 ≤ 26742; omega) sl_0 (fun x H hP hD hS => ?_)
  refine W.widen (k := 1) (n := 5) (by omega) (by omega) ?_
  have hP : va_P (dC, dI) ab_cls [(x, Sum.inr (5, [.null, .null, .null, .null, .null]))] H := hP
  have hD : va_D (fun q => s.heap.size ≤ q) [(x, Sum.inr (5, [.null, .null, .null, .null, .null]))] := hD
  refine lv_dup hx hb sl_3 rfl ?_
  refine ct_call (s0 := s) (va_runI (b := x) (As := []) (rest := [.ref x]) (Ts := []) ⟨hx, hb, hml, hown, fun _ z => nomatch z⟩ (cn_5 hC x) ⟨⟨rfl, rfl, (Nat.le_of_ble_eq_true rfl), (Nat.le_of_ble_eq_true rfl), fun w hw a' U hW => by rw [List.mem_singleton.mp hw]; exact hC.word cn_5_k rfl (State.WarmedH.trans hW0 hW) a', List.mem_cons_self, hC.word cn_5_k rfl hW0 _, hC.word (ab_iniok 5 (by decide)) rfl hW0 _, ⟨by decide, by decide⟩, ct_sig 0 (by decide +kernel), hC.word sw_m5 rfl hW0 _⟩, rfl, hC.word sw_x5 rfl hW0 _⟩ ⟨ct_blind, fun U hU hW => ⟨rfl, State.WarmedH.trans hW0 hW, by rw [hU]; exact hS.1, by rw [hU]; exact hP, hD⟩⟩ rfl rfl hl.1 rfl (lv_room (Nat.le_of_ble_eq_true rfl)) sl_4 ⟨by show 19 ≤ 1074; omega, by show 3332 ≤ 26742; omega⟩) hS (fun ws9 H locs hpo hP hD hS => ?_)
  refine W.widen (k := 19) (n := 3332) (by omega) (by omega) ?_
  obtain ⟨g, g1, g2, g3, g4, g5, a, a1, a2, b9, b1, d, d1, r, r1, r2, r3, r4, rfl⟩ := hpo
  refine lv_astore_n hx hb sl_7 rfl hl (by decide) rfl (fun ls hl => ?_)
  have hl : lv_has ls 7 [(1, .ref x), (0, .ref b)] := hl
  exact law_mid hpure l htr hL C0' hex hC H locs ls _ x hP hD hS hl (fun y m1 m2 m3 m4 m5 m6 m7 m8 m9 m10 m11 m12 m13 m14 m15 m16 m17 z => ⟨fun k => ([x, g, a, b9, d, r, y, g1, g2, g3, g4, g5, a1, a2, b1, d1, r1, r2, r3, r4, m1, m2, m3, m4, m5, m6, m7, m8, m9, m10, m11, m12, m13, m14, m15, m16, m17, z, b] : List Nat).getD k 0, rfl, rfl, rfl, rfl, st_key L xs cA x g g1 g2 g3 g4 g5 a a1 a2 b9 b1 d d1 r r1 r2 r3 r4 y m1 m2 m3 m4 m5 m6 m7 m8 m9 m10 m11 m12 m13 m14 m15 m16 m17 z b⟩)
end Law9
end
