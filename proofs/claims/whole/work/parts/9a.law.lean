-- ===== PART A: goes FIRST, ahead of the names: the tables' words, and 'selects' of the private methods out of them =====
/-- a private method of a class that the tables say can be made, by its rows of tables_1 -/
def lw_okq (q : MethodName × Nat) : Prop := (q.1.cls ≠ "java/lang/invoke/MethodHandle" ∧ q.1.cls ≠ "java/lang/invoke/VarHandle") ∧ Cond.instantiable q.1.cls q.2 ∈ tables_1 ∧ Cond.privateMethod q.1 ∈ tables_1 ∧ Cond.instanceMethod q.1 ∈ tables_1
theorem lw_p0 : lw_okq (⟨"ResinWoods", "woodAt", "(I)LResinWoods$Wood;"⟩, 12) := ⟨⟨by decide +kernel, by decide +kernel⟩, List.mem_of_getElem? (i := 20) (by decide +kernel), List.mem_of_getElem? (i := 238) (by decide +kernel), List.mem_of_getElem? (i := 239) (by decide +kernel)⟩
theorem lw_p1 : lw_okq (⟨"java/util/ArrayList", "add", "(Ljava/lang/Object;[Ljava/lang/Object;I)V"⟩, 3) := ⟨⟨by decide +kernel, by decide +kernel⟩, List.mem_of_getElem? (i := 30) (by decide +kernel), List.mem_of_getElem? (i := 306) (by decide +kernel), List.mem_of_getElem? (i := 307) (by decide +kernel)⟩
theorem lw_p2 : lw_okq (⟨"java/util/ArrayList", "grow", "()[Ljava/lang/Object;"⟩, 3) := ⟨⟨by decide +kernel, by decide +kernel⟩, List.mem_of_getElem? (i := 30) (by decide +kernel), List.mem_of_getElem? (i := 310) (by decide +kernel), List.mem_of_getElem? (i := 311) (by decide +kernel)⟩
theorem lw_p3 : lw_okq (⟨"java/util/ArrayList", "grow", "(I)[Ljava/lang/Object;"⟩, 3) := ⟨⟨by decide +kernel, by decide +kernel⟩, List.mem_of_getElem? (i := 30) (by decide +kernel), List.mem_of_getElem? (i := 314) (by decide +kernel), List.mem_of_getElem? (i := 315) (by decide +kernel)⟩
theorem lw_p4 : lw_okq (⟨"ResinWoods", "treeAt", "(I)LResinWoods$Tree;"⟩, 12) := ⟨⟨by decide +kernel, by decide +kernel⟩, List.mem_of_getElem? (i := 20) (by decide +kernel), List.mem_of_getElem? (i := 373) (by decide +kernel), List.mem_of_getElem? (i := 374) (by decide +kernel)⟩
theorem lw_p5 : lw_okq (⟨"ResinWoods", "endDay", "()V"⟩, 12) := ⟨⟨by decide +kernel, by decide +kernel⟩, List.mem_of_getElem? (i := 20) (by decide +kernel), List.mem_of_getElem? (i := 441) (by decide +kernel), List.mem_of_getElem? (i := 442) (by decide +kernel)⟩
theorem lw_p6 : lw_okq (⟨"ResinWoods", "pourCup", "(LResinWoods$Tree;LResinWoods$Face;)V"⟩, 12) := ⟨⟨by decide +kernel, by decide +kernel⟩, List.mem_of_getElem? (i := 20) (by decide +kernel), List.mem_of_getElem? (i := 506) (by decide +kernel), List.mem_of_getElem? (i := 507) (by decide +kernel)⟩
theorem lw_p7 : lw_okq (⟨"ResinWoods", "pour", "(LResinWoods$Tree;II)V"⟩, 12) := ⟨⟨by decide +kernel, by decide +kernel⟩, List.mem_of_getElem? (i := 20) (by decide +kernel), List.mem_of_getElem? (i := 510) (by decide +kernel), List.mem_of_getElem? (i := 511) (by decide +kernel)⟩
theorem lw_p8 : lw_okq (⟨"ResinWoods", "barrelAt", "(I)LResinWoods$Barrel;"⟩, 12) := ⟨⟨by decide +kernel, by decide +kernel⟩, List.mem_of_getElem? (i := 20) (by decide +kernel), List.mem_of_getElem? (i := 558) (by decide +kernel), List.mem_of_getElem? (i := 559) (by decide +kernel)⟩
theorem lw_p9 : lw_okq (⟨"ResinWoods", "planWalk", "(III)Z"⟩, 12) := ⟨⟨by decide +kernel, by decide +kernel⟩, List.mem_of_getElem? (i := 20) (by decide +kernel), List.mem_of_getElem? (i := 625) (by decide +kernel), List.mem_of_getElem? (i := 626) (by decide +kernel)⟩
theorem lw_p10 : lw_okq (⟨"ResinWoods", "foreseeTree", "(LResinWoods$Tree;I)V"⟩, 12) := ⟨⟨by decide +kernel, by decide +kernel⟩, List.mem_of_getElem? (i := 20) (by decide +kernel), List.mem_of_getElem? (i := 644) (by decide +kernel), List.mem_of_getElem? (i := 645) (by decide +kernel)⟩
theorem lw_p11 : lw_okq (⟨"ResinWoods$Planner", "beatsBest", "(II)Z"⟩, 12) := ⟨⟨by decide +kernel, by decide +kernel⟩, List.mem_of_getElem? (i := 79) (by decide +kernel), List.mem_of_getElem? (i := 655) (by decide +kernel), List.mem_of_getElem? (i := 656) (by decide +kernel)⟩
theorem lw_p12 : lw_okq (⟨"ResinWoods$Planner", "keepBest", "(II)V"⟩, 12) := ⟨⟨by decide +kernel, by decide +kernel⟩, List.mem_of_getElem? (i := 79) (by decide +kernel), List.mem_of_getElem? (i := 659) (by decide +kernel), List.mem_of_getElem? (i := 660) (by decide +kernel)⟩
theorem lw_p13 : lw_okq (⟨"ResinWoods$Planner", "spilledBy", "(II)I"⟩, 12) := ⟨⟨by decide +kernel, by decide +kernel⟩, List.mem_of_getElem? (i := 79) (by decide +kernel), List.mem_of_getElem? (i := 669) (by decide +kernel), List.mem_of_getElem? (i := 670) (by decide +kernel)⟩
theorem lw_p14 : lw_okq (⟨"ResinWoods", "inAllCups", "()I"⟩, 12) := ⟨⟨by decide +kernel, by decide +kernel⟩, List.mem_of_getElem? (i := 20) (by decide +kernel), List.mem_of_getElem? (i := 682) (by decide +kernel), List.mem_of_getElem? (i := 683) (by decide +kernel)⟩
theorem lw_p15 : lw_okq (⟨"ResinWoodsModel", "isTree", "(I)Z"⟩, 39) := ⟨⟨by decide +kernel, by decide +kernel⟩, List.mem_of_getElem? (i := 686) (by decide +kernel), List.mem_of_getElem? (i := 829) (by decide +kernel), List.mem_of_getElem? (i := 830) (by decide +kernel)⟩
def lw_privs_1 : List (MethodName × Nat) := [(⟨"ResinWoods", "woodAt", "(I)LResinWoods$Wood;"⟩, 12), (⟨"java/util/ArrayList", "add", "(Ljava/lang/Object;[Ljava/lang/Object;I)V"⟩, 3), (⟨"java/util/ArrayList", "grow", "()[Ljava/lang/Object;"⟩, 3), (⟨"java/util/ArrayList", "grow", "(I)[Ljava/lang/Object;"⟩, 3), (⟨"ResinWoods", "treeAt", "(I)LResinWoods$Tree;"⟩, 12), (⟨"ResinWoods", "endDay", "()V"⟩, 12), (⟨"ResinWoods", "pourCup", "(LResinWoods$Tree;LResinWoods$Face;)V"⟩, 12), (⟨"ResinWoods", "pour", "(LResinWoods$Tree;II)V"⟩, 12), (⟨"ResinWoods", "barrelAt", "(I)LResinWoods$Barrel;"⟩, 12), (⟨"ResinWoods", "planWalk", "(III)Z"⟩, 12), (⟨"ResinWoods", "foreseeTree", "(LResinWoods$Tree;I)V"⟩, 12), (⟨"ResinWoods$Planner", "beatsBest", "(II)Z"⟩, 12), (⟨"ResinWoods$Planner", "keepBest", "(II)V"⟩, 12), (⟨"ResinWoods$Planner", "spilledBy", "(II)I"⟩, 12), (⟨"ResinWoods", "inAllCups", "()I"⟩, 12), (⟨"ResinWoodsModel", "isTree", "(I)Z"⟩, 39)]
theorem lw_r1 : ∀ q ∈ lw_privs_1, lw_okq q := List.forall_mem_cons.mpr ⟨lw_p0, List.forall_mem_cons.mpr ⟨lw_p1, List.forall_mem_cons.mpr ⟨lw_p2, List.forall_mem_cons.mpr ⟨lw_p3, List.forall_mem_cons.mpr ⟨lw_p4, List.forall_mem_cons.mpr ⟨lw_p5, List.forall_mem_cons.mpr ⟨lw_p6, List.forall_mem_cons.mpr ⟨lw_p7, List.forall_mem_cons.mpr ⟨lw_p8, List.forall_mem_cons.mpr ⟨lw_p9, List.forall_mem_cons.mpr ⟨lw_p10, List.forall_mem_cons.mpr ⟨lw_p11, List.forall_mem_cons.mpr ⟨lw_p12, List.forall_mem_cons.mpr ⟨lw_p13, List.forall_mem_cons.mpr ⟨lw_p14, List.forall_mem_cons.mpr ⟨lw_p15, fun _ h => absurd h List.not_mem_nil⟩⟩⟩⟩⟩⟩⟩⟩⟩⟩⟩⟩⟩⟩⟩⟩
theorem lw_p16 : lw_okq (⟨"ResinWoodsModel", "runs", "(I)V"⟩, 39) := ⟨⟨by decide +kernel, by decide +kernel⟩, List.mem_of_getElem? (i := 686) (by decide +kernel), List.mem_of_getElem? (i := 843) (by decide +kernel), List.mem_of_getElem? (i := 844) (by decide +kernel)⟩
theorem lw_p17 : lw_okq (⟨"ResinWoodsModel", "inCup", "(I)I"⟩, 39) := ⟨⟨by decide +kernel, by decide +kernel⟩, List.mem_of_getElem? (i := 686) (by decide +kernel), List.mem_of_getElem? (i := 850) (by decide +kernel), List.mem_of_getElem? (i := 851) (by decide +kernel)⟩
theorem lw_p18 : lw_okq (⟨"ResinWoodsModel", "gradeOf", "(II)I"⟩, 39) := ⟨⟨by decide +kernel, by decide +kernel⟩, List.mem_of_getElem? (i := 686) (by decide +kernel), List.mem_of_getElem? (i := 854) (by decide +kernel), List.mem_of_getElem? (i := 855) (by decide +kernel)⟩
theorem lw_p19 : lw_okq (⟨"ResinWoodsModel", "washes", "(I)V"⟩, 39) := ⟨⟨by decide +kernel, by decide +kernel⟩, List.mem_of_getElem? (i := 686) (by decide +kernel), List.mem_of_getElem? (i := 858) (by decide +kernel), List.mem_of_getElem? (i := 859) (by decide +kernel)⟩
theorem lw_p20 : lw_okq (⟨"ResinWoodsModel", "room", "(I)I"⟩, 39) := ⟨⟨by decide +kernel, by decide +kernel⟩, List.mem_of_getElem? (i := 686) (by decide +kernel), List.mem_of_getElem? (i := 870) (by decide +kernel), List.mem_of_getElem? (i := 871) (by decide +kernel)⟩
theorem lw_p21 : lw_okq (⟨"ResinWoodsModel", "isFull", "(I)Z"⟩, 39) := ⟨⟨by decide +kernel, by decide +kernel⟩, List.mem_of_getElem? (i := 686) (by decide +kernel), List.mem_of_getElem? (i := 874) (by decide +kernel), List.mem_of_getElem? (i := 875) (by decide +kernel)⟩
theorem lw_p22 : lw_okq (⟨"ResinWoodsModel", "has", "(I)I"⟩, 39) := ⟨⟨by decide +kernel, by decide +kernel⟩, List.mem_of_getElem? (i := 686) (by decide +kernel), List.mem_of_getElem? (i := 878) (by decide +kernel), List.mem_of_getElem? (i := 879) (by decide +kernel)⟩
theorem lw_p23 : lw_okq (⟨"ResinWoodsModel", "fills", "(III)V"⟩, 39) := ⟨⟨by decide +kernel, by decide +kernel⟩, List.mem_of_getElem? (i := 686) (by decide +kernel), List.mem_of_getElem? (i := 882) (by decide +kernel), List.mem_of_getElem? (i := 883) (by decide +kernel)⟩
theorem lw_p24 : lw_okq (⟨"ResinWoodsModel", "isBarrel", "(I)Z"⟩, 39) := ⟨⟨by decide +kernel, by decide +kernel⟩, List.mem_of_getElem? (i := 686) (by decide +kernel), List.mem_of_getElem? (i := 890) (by decide +kernel), List.mem_of_getElem? (i := 891) (by decide +kernel)⟩
theorem lw_p25 : lw_okq (⟨"ResinWoodsModel", "grade", "(I)I"⟩, 39) := ⟨⟨by decide +kernel, by decide +kernel⟩, List.mem_of_getElem? (i := 686) (by decide +kernel), List.mem_of_getElem? (i := 894) (by decide +kernel), List.mem_of_getElem? (i := 895) (by decide +kernel)⟩
theorem lw_p26 : lw_okq (⟨"ResinWoodsModel", "walks", "(III)I"⟩, 39) := ⟨⟨by decide +kernel, by decide +kernel⟩, List.mem_of_getElem? (i := 686) (by decide +kernel), List.mem_of_getElem? (i := 932) (by decide +kernel), List.mem_of_getElem? (i := 933) (by decide +kernel)⟩
theorem lw_p27 : lw_okq (⟨"ResinWoodsModel", "chooses", "(II)I"⟩, 39) := ⟨⟨by decide +kernel, by decide +kernel⟩, List.mem_of_getElem? (i := 686) (by decide +kernel), List.mem_of_getElem? (i := 936) (by decide +kernel), List.mem_of_getElem? (i := 937) (by decide +kernel)⟩
theorem lw_p28 : lw_okq (⟨"ResinWoodsModel", "foresees", "(I)V"⟩, 39) := ⟨⟨by decide +kernel, by decide +kernel⟩, List.mem_of_getElem? (i := 686) (by decide +kernel), List.mem_of_getElem? (i := 940) (by decide +kernel), List.mem_of_getElem? (i := 941) (by decide +kernel)⟩
theorem lw_p29 : lw_okq (⟨"ResinWoodsModel", "orders", "(II)V"⟩, 39) := ⟨⟨by decide +kernel, by decide +kernel⟩, List.mem_of_getElem? (i := 686) (by decide +kernel), List.mem_of_getElem? (i := 944) (by decide +kernel), List.mem_of_getElem? (i := 945) (by decide +kernel)⟩
def lw_privs_2 : List (MethodName × Nat) := [(⟨"ResinWoodsModel", "runs", "(I)V"⟩, 39), (⟨"ResinWoodsModel", "inCup", "(I)I"⟩, 39), (⟨"ResinWoodsModel", "gradeOf", "(II)I"⟩, 39), (⟨"ResinWoodsModel", "washes", "(I)V"⟩, 39), (⟨"ResinWoodsModel", "room", "(I)I"⟩, 39), (⟨"ResinWoodsModel", "isFull", "(I)Z"⟩, 39), (⟨"ResinWoodsModel", "has", "(I)I"⟩, 39), (⟨"ResinWoodsModel", "fills", "(III)V"⟩, 39), (⟨"ResinWoodsModel", "isBarrel", "(I)Z"⟩, 39), (⟨"ResinWoodsModel", "grade", "(I)I"⟩, 39), (⟨"ResinWoodsModel", "walks", "(III)I"⟩, 39), (⟨"ResinWoodsModel", "chooses", "(II)I"⟩, 39), (⟨"ResinWoodsModel", "foresees", "(I)V"⟩, 39), (⟨"ResinWoodsModel", "orders", "(II)V"⟩, 39)]
theorem lw_r2 : ∀ q ∈ lw_privs_2, lw_okq q := List.forall_mem_cons.mpr ⟨lw_p16, List.forall_mem_cons.mpr ⟨lw_p17, List.forall_mem_cons.mpr ⟨lw_p18, List.forall_mem_cons.mpr ⟨lw_p19, List.forall_mem_cons.mpr ⟨lw_p20, List.forall_mem_cons.mpr ⟨lw_p21, List.forall_mem_cons.mpr ⟨lw_p22, List.forall_mem_cons.mpr ⟨lw_p23, List.forall_mem_cons.mpr ⟨lw_p24, List.forall_mem_cons.mpr ⟨lw_p25, List.forall_mem_cons.mpr ⟨lw_p26, List.forall_mem_cons.mpr ⟨lw_p27, List.forall_mem_cons.mpr ⟨lw_p28, List.forall_mem_cons.mpr ⟨lw_p29, fun _ h => absurd h List.not_mem_nil⟩⟩⟩⟩⟩⟩⟩⟩⟩⟩⟩⟩⟩⟩
def lw_privs : List (MethodName × Nat) := lw_privs_1 ++ (lw_privs_2)
def lw_tbl : List Cond := k2_sels lw_privs ++ tables_1
theorem lw_privs_ok : ∀ q ∈ lw_privs, lw_okq q := by
  show ∀ q ∈ lw_privs_1 ++ (lw_privs_2), lw_okq q
  exact List.forall_mem_append.mpr ⟨lw_r1, lw_r2⟩
def wsL_law_r1 : List Cond := [Cond.classLink RL 7 RX6, Cond.instantiable RX6 12, Cond.initialized RX6, Cond.classLink RL 10 RX7, Cond.instantiable RX7 39, Cond.initialized RX7, Cond.methodLink RL 9 yX6_init, Cond.instanceMethod yX6_init, Cond.code yX6_init cX6_init 2 none, Cond.methodLink RX6 3 objectInit, Cond.instanceMethod objectInit, Cond.code objectInit ⟨#[0xb1]⟩ 1 none, Cond.arrayClass .byte, Cond.fieldLink RX6 9 "ResinWoods" "warmths" "[B", Cond.fieldLink RX6 13 "ResinWoods" "rains" "[B", Cond.classLink RX6 16 RX5, Cond.fieldLink RX6 18 "ResinWoods" "woods" "[LResinWoods$Wood;", Cond.classLink RX6 22 RJx4a65c, Cond.instantiable RJx4a65c 3, Cond.initialized RJx4a65c, Cond.fieldLink RX6 25 "ResinWoods" "trees" "Ljava/util/List;", Cond.fieldLink RX6 29 "ResinWoods" "barrels" "Ljava/util/List;", Cond.classLink RX6 32 RX3, Cond.instantiable RX3 3]
def wsL_law_r2 : List Cond := [Cond.initialized RX3, Cond.fieldLink RX6 35 "ResinWoods" "tally" "LResinWoods$Tally;", Cond.classLink RX6 39 RX2, Cond.instantiable RX2 12, Cond.initialized RX2, Cond.fieldLink RX6 42 "ResinWoods" "planner" "LResinWoods$Planner;", Cond.fieldLink RX6 46 "ResinWoods" "now" "I", Cond.fieldLink RX6 50 "ResinWoods" "emptied" "I", Cond.fieldLink RX6 53 "ResinWoods" "burnt" "I", Cond.fieldLink RX6 56 "ResinWoods" "spirit" "I", Cond.fieldLink RX6 59 "ResinWoods" "rosin" "I", Cond.instantiable RX5 6, Cond.initialized RX5, Cond.methodLink RX6 24 yJx4a65c_init_da8c8, Cond.instanceMethod yJx4a65c_init_da8c8, Cond.code yJx4a65c_init_da8c8 cJx4a65c_init_da8c8 1 none, Cond.fieldLink RJx4a65c 39 "java/util/ArrayList" "DEFAULTCAPACITY_EMPTY_ELEMENTDATA" "[Ljava/lang/Object;", Cond.fieldLink RJx4a65c 9 "java/util/ArrayList" "elementData" "[Ljava/lang/Object;", Cond.methodLink RJx4a65c 1 yJxc12de_init_da8c8, Cond.instanceMethod yJxc12de_init_da8c8, Cond.initialized RJxc12de, Cond.code yJxc12de_init_da8c8 cJxc12de_init_da8c8 1 none, Cond.fieldLink RJxc12de 7 "java/util/AbstractList" "modCount" "I", Cond.methodLink RJxc12de 1 yJxa1e45_init_da8c8]
def wsL_law_r3 : List Cond := [Cond.instanceMethod yJxa1e45_init_da8c8, Cond.initialized RJxa1e45, Cond.code yJxa1e45_init_da8c8 cJxa1e45_init_da8c8 1 none, Cond.methodLink RJxa1e45 1 objectInit, Cond.instanceMethod yX3_init, Cond.code yX3_init cX3_init 1 none, Cond.methodLink RX3 1 objectInit, Cond.fieldLink RX3 7 "ResinWoods$Tally" "ran" "I", Cond.fieldLink RX3 13 "ResinWoods$Tally" "ranOver" "I", Cond.fieldLink RX3 16 "ResinWoods$Tally" "washed" "I", Cond.instanceMethod yX2_init, Cond.code yX2_init cX2_init 1 none, Cond.methodLink RX2 3 objectInit, Cond.fieldLink RX2 9 "ResinWoods$Planner" "size" "I", Cond.arrayClass .int, Cond.fieldLink RX2 15 "ResinWoods$Planner" "numbers" "[I", Cond.fieldLink RX2 19 "ResinWoods$Planner" "places" "[I", Cond.classLink RX2 22 "[[I", Cond.fieldLink RX2 24 "ResinWoods$Planner" "spills" "[[I", Cond.fieldLink RX2 27 "ResinWoods$Planner" "order" "[I", Cond.fieldLink RX2 30 "ResinWoods$Planner" "best" "[I", Cond.arrayClass .boolean, Cond.fieldLink RX2 33 "ResinWoods$Planner" "isVisited" "[Z", Cond.classLink RX2 37 RX1]
def wsL_law_r4 : List Cond := [Cond.instantiable RX1 6, Cond.initialized RX1, Cond.fieldLink RX2 40 "ResinWoods$Planner" "cup" "LResinWoods$Face;", Cond.classLink RX2 44 RX3, Cond.fieldLink RX2 47 "ResinWoods$Planner" "unread" "LResinWoods$Tally;", Cond.fieldLink RX2 51 "ResinWoods$Planner" "hasBest" "Z", Cond.fieldLink RX2 55 "ResinWoods$Planner" "bestOver" "I", Cond.fieldLink RX2 58 "ResinWoods$Planner" "bestSteps" "I", Cond.instanceMethod yX1_init, Cond.code yX1_init cX1_init 1 none, Cond.methodLink RX1 3 objectInit, Cond.fieldLink RX1 9 "ResinWoods$Face" "streaks" "I", Cond.fieldLink RX1 15 "ResinWoods$Face" "latest" "I", Cond.fieldLink RX1 18 "ResinWoods$Face" "openedIn" "I", Cond.fieldLink RX1 21 "ResinWoods$Face" "has" "I", Cond.fieldLink RX1 24 "ResinWoods$Face" "ranOver" "I", Cond.fieldLink RX1 27 "ResinWoods$Face" "ofGrade" "[I", Cond.methodLink RX6 62 yX5_init, Cond.instanceMethod yX5_init, Cond.code yX5_init cX5_init 2 none, Cond.methodLink RX5 1 objectInit, Cond.fieldLink RX5 7 "ResinWoods$Wood" "isLet" "Z", Cond.fieldLink RX5 13 "ResinWoods$Wood" "rent" "I", Cond.fieldLink RX5 17 "ResinWoods$Wood" "emptied" "I"]
def wsL_law_r5 : List Cond := [Cond.fieldLink RX5 20 "ResinWoods$Wood" "paid" "I", Cond.fieldLink RX5 23 "ResinWoods$Wood" "latest" "LResinWoods$Barrel;", Cond.fieldLink RX5 27 "ResinWoods$Wood" "number" "I", Cond.methodLink RL 12 yX7_init, Cond.instanceMethod yX7_init, Cond.code yX7_init cX7_init 2 none, Cond.methodLink RX7 1 objectInit, Cond.fieldLink RX7 9 "ResinWoodsModel" "warmth" "[I", Cond.fieldLink RX7 13 "ResinWoodsModel" "rain" "[I", Cond.fieldLink RX7 16 "ResinWoodsModel" "wood" "[I", Cond.fieldLink RX7 19 "ResinWoodsModel" "placeX" "[I", Cond.fieldLink RX7 22 "ResinWoodsModel" "placeY" "[I", Cond.fieldLink RX7 25 "ResinWoodsModel" "girth" "[I", Cond.fieldLink RX7 28 "ResinWoodsModel" "isBurnt" "[Z", Cond.fieldLink RX7 32 "ResinWoodsModel" "opened" "[I", Cond.fieldLink RX7 35 "ResinWoodsModel" "years" "[I", Cond.fieldLink RX7 38 "ResinWoodsModel" "streaks" "[I", Cond.fieldLink RX7 41 "ResinWoodsModel" "latest" "[I", Cond.fieldLink RX7 44 "ResinWoodsModel" "openYear" "[I", Cond.fieldLink RX7 47 "ResinWoodsModel" "cups" "[I", Cond.fieldLink RX7 50 "ResinWoodsModel" "overOf" "[I", Cond.fieldLink RX7 53 "ResinWoodsModel" "barrelWood" "[I", Cond.fieldLink RX7 56 "ResinWoodsModel" "barrelHas" "[I", Cond.fieldLink RX7 59 "ResinWoodsModel" "barrelFrom" "[I"]
def wsL_law_r6 : List Cond := [Cond.fieldLink RX7 62 "ResinWoodsModel" "isStilled" "[Z", Cond.fieldLink RX7 65 "ResinWoodsModel" "isPaid" "[Z", Cond.fieldLink RX7 68 "ResinWoodsModel" "isLet" "[Z", Cond.fieldLink RX7 71 "ResinWoodsModel" "rent" "[I", Cond.fieldLink RX7 74 "ResinWoodsModel" "taken" "[I", Cond.fieldLink RX7 77 "ResinWoodsModel" "paid" "[I", Cond.fieldLink RX7 80 "ResinWoodsModel" "chosen" "[I", Cond.fieldLink RX7 83 "ResinWoodsModel" "runsOver" "[I", Cond.fieldLink RX7 86 "ResinWoodsModel" "order" "[I", Cond.fieldLink RX7 89 "ResinWoodsModel" "best" "[I", Cond.methodLink RL 13 yX6_tree, Cond.instanceMethod yX6_tree, Cond.selects RX6 yX6_tree yX6_tree, Cond.code yX6_tree cX6_tree 5 (some .int), Cond.classLink RX6 82 RX4, Cond.instantiable RX4 7, Cond.initialized RX4, Cond.methodLink RX6 65 yX6_woodAt, Cond.instanceMethod yX6_woodAt, Cond.selects RX6 yX6_woodAt yX6_woodAt, Cond.code yX6_woodAt cX6_woodAt 2 (some (.object "ResinWoods$Wood")), Cond.methodLink RX6 69 yX6_isPlace, Cond.static yX6_isPlace, Cond.code yX6_isPlace cX6_isPlace 1 (some .boolean)]
def wsL_law_r7 : List Cond := [Cond.methodLink RX6 73 yX6_isGirth, Cond.static yX6_isGirth, Cond.code yX6_isGirth cX6_isGirth 1 (some .boolean), Cond.methodLink RX6 76 ⟨"java/util/List", "size", "()I"⟩, Cond.selects RJx4a65c ⟨"java/util/List", "size", "()I"⟩ yJx4a65c_size_8abf5, Cond.instanceMethod yJx4a65c_size_8abf5, Cond.code yJx4a65c_size_8abf5 cJx4a65c_size_8abf5 1 (some .int), Cond.fieldLink RJx4a65c 48 "java/util/ArrayList" "size" "I", Cond.methodLink RX6 84 yX6_facesBorneBy, Cond.static yX6_facesBorneBy, Cond.code yX6_facesBorneBy cX6_facesBorneBy 1 (some .int), Cond.methodLink RX6 88 yX4_init, Cond.instanceMethod yX4_init, Cond.code yX4_init cX4_init 5 none, Cond.methodLink RX4 3 objectInit, Cond.classLink RX4 9 RJx4a65c, Cond.fieldLink RX4 12 "ResinWoods$Tree" "faces" "Ljava/util/List;", Cond.fieldLink RX4 18 "ResinWoods$Tree" "isBurnt" "Z", Cond.fieldLink RX4 22 "ResinWoods$Tree" "yearsCut" "I", Cond.fieldLink RX4 26 "ResinWoods$Tree" "number" "I", Cond.fieldLink RX4 29 "ResinWoods$Tree" "wood" "LResinWoods$Wood;", Cond.fieldLink RX4 33 "ResinWoods$Tree" "where" "I", Cond.fieldLink RX4 36 "ResinWoods$Tree" "borne" "I", Cond.methodLink RX4 11 yJx4a65c_init_da8c8]
def wsL_law_r8 : List Cond := [Cond.methodLink RX6 91 ⟨"java/util/List", "add", "(Ljava/lang/Object;)Z"⟩, Cond.selects RJx4a65c ⟨"java/util/List", "add", "(Ljava/lang/Object;)Z"⟩ yJx4a65c_add_9ea2d, Cond.instanceMethod yJx4a65c_add_9ea2d, Cond.code yJx4a65c_add_9ea2d cJx4a65c_add_9ea2d 2 (some .boolean), Cond.fieldLink RJx4a65c 63 "java/util/ArrayList" "modCount" "I", Cond.sameField "java/util/ArrayList" "java/util/AbstractList" "modCount" "I", Cond.methodLink RJx4a65c 131 yJx4a65c_add_72be8, Cond.instanceMethod yJx4a65c_add_72be8, Cond.selects RJx4a65c yJx4a65c_add_72be8 yJx4a65c_add_72be8, Cond.code yJx4a65c_add_72be8 cJx4a65c_add_72be8 4 none, Cond.methodLink RJx4a65c 129 yJx4a65c_grow_d5877, Cond.instanceMethod yJx4a65c_grow_d5877, Cond.selects RJx4a65c yJx4a65c_grow_d5877 yJx4a65c_grow_d5877, Cond.code yJx4a65c_grow_d5877 cJx4a65c_grow_d5877 1 (some (.array (.object "java/lang/Object"))), Cond.methodLink RJx4a65c 69 yJx4a65c_grow_92f84, Cond.instanceMethod yJx4a65c_grow_92f84, Cond.selects RJx4a65c yJx4a65c_grow_92f84 yJx4a65c_grow_92f84, Cond.code yJx4a65c_grow_92f84 cJx4a65c_grow_92f84 4 (some (.array (.object "java/lang/Object"))), Cond.methodLink RJx4a65c 79 Lib.Math.max.name, Cond.static Lib.Math.max.name, Cond.initialized "java/lang/Math", Cond.code Lib.Math.max.name Lib.Math.max.code 2 (some .int), Cond.classLink RJx4a65c 7 "java/lang/Object", Cond.methodLink RJx4a65c 73 yJ8_newLength_cabcc]
def wsL_law_r9 : List Cond := [Cond.static yJ8_newLength_cabcc, Cond.initialized RJ8, Cond.code yJ8_newLength_cabcc cJ8_newLength_cabcc 4 (some .int), Cond.methodLink RJ8 194 Lib.Math.max.name, Cond.constant RJ8 200 (2147483639), Cond.methodLink RJ8 201 yJ8_hugeLength_7cf53, Cond.static yJ8_hugeLength_7cf53, Cond.code yJ8_hugeLength_7cf53 cJ8_hugeLength_7cf53 3 (some .int), Cond.methodLink RJx4a65c 66 yJ7_copyOf_1904c, Cond.static yJ7_copyOf_1904c, Cond.initialized RJ7, Cond.code yJ7_copyOf_1904c cJ7_copyOf_1904c 2 (some (.array (.object "java/lang/Object"))), Cond.methodLink RJ7 86 ⟨"java/lang/Object", "getClass", "()Ljava/lang/Class;"⟩, Cond.selects "[Ljava/lang/Object;" ⟨"java/lang/Object", "getClass", "()Ljava/lang/Class;"⟩ ⟨"java/lang/Object", "getClass", "()Ljava/lang/Class;"⟩, Cond.instanceMethod ⟨"java/lang/Object", "getClass", "()Ljava/lang/Class;"⟩, Cond.native ⟨"java/lang/Object", "getClass", "()Ljava/lang/Class;"⟩, Cond.methodLink RJ7 300 yJ7_copyOf_6403c, Cond.static yJ7_copyOf_6403c, Cond.code yJ7_copyOf_6403c cJ7_copyOf_6403c 4 (some (.array (.object "java/lang/Object"))), Cond.classLink RJ7 110 "[Ljava/lang/Object;", Cond.classLink RJ7 2 "java/lang/Object", Cond.methodLink RJ7 304 Lib.Math.min.name, Cond.static Lib.Math.min.name, Cond.code Lib.Math.min.name Lib.Math.min.code 2 (some .int)]
def wsL_law_r10 : List Cond := [Cond.methodLink RJ7 150 arraycopyName, Cond.native arraycopyName, Cond.static arraycopyName, Cond.initialized "java/lang/System", Cond.methodLink RL 17 yX7_tree, Cond.instanceMethod yX7_tree, Cond.selects RX7 yX7_tree yX7_tree, Cond.code yX7_tree cX7_tree 4 (some .int), Cond.fieldLink RX7 92 "ResinWoodsModel" "trees" "I", Cond.methodLink RX7 96 yX7_in, Cond.static yX7_in, Cond.code yX7_in cX7_in 3 (some .boolean), Cond.methodLink RL 18 yX6_bears, Cond.instanceMethod yX6_bears, Cond.selects RX6 yX6_bears yX6_bears, Cond.code yX6_bears cX6_bears 2 (some .int), Cond.methodLink RL 22 yX7_bears, Cond.instanceMethod yX7_bears, Cond.selects RX7 yX7_bears yX7_bears, Cond.code yX7_bears cX7_bears 2 (some .int), Cond.methodLink RL 23 yX6_weather, Cond.instanceMethod yX6_weather, Cond.selects RX6 yX6_weather yX6_weather, Cond.code yX6_weather cX6_weather 6 (some .boolean)]
def wsL_law_r11 : List Cond := [Cond.methodLink RX6 95 yX6_isWeather, Cond.static yX6_isWeather, Cond.code yX6_isWeather cX6_isWeather 1 (some .boolean), Cond.methodLink RL 27 yX7_weather, Cond.instanceMethod yX7_weather, Cond.selects RX7 yX7_weather yX7_weather, Cond.code yX7_weather cX7_weather 6 (some .boolean), Cond.fieldLink RX7 100 "ResinWoodsModel" "now" "I", Cond.methodLink RL 28 yX6_cut, Cond.instanceMethod yX6_cut, Cond.selects RX6 yX6_cut yX6_cut, Cond.code yX6_cut cX6_cut 5 (some .int), Cond.fieldLink RX6 102 "ResinWoods$Tree" "isBurnt" "Z", Cond.methodLink RX6 98 yX6_treeAt, Cond.instanceMethod yX6_treeAt, Cond.selects RX6 yX6_treeAt yX6_treeAt, Cond.code yX6_treeAt cX6_treeAt 2 (some (.object "ResinWoods$Tree")), Cond.classLink RX6 82 "ResinWoods$Tree", Cond.methodLink RX6 157 ⟨"java/util/List", "get", "(I)Ljava/lang/Object;"⟩, Cond.selects RJx4a65c ⟨"java/util/List", "get", "(I)Ljava/lang/Object;"⟩ yJx4a65c_get_915e3, Cond.instanceMethod yJx4a65c_get_915e3, Cond.code yJx4a65c_get_915e3 cJx4a65c_get_915e3 2 (some (.object "java/lang/Object")), Cond.methodLink RJx4a65c 118 yJ15_checkIndex_7cf53, Cond.static yJ15_checkIndex_7cf53]
def wsL_law_r12 : List Cond := [Cond.initialized RJ15, Cond.code yJ15_checkIndex_7cf53 cJ15_checkIndex_7cf53 2 (some .int), Cond.methodLink RJ15 105 yJ3_checkIndex_8e157, Cond.static yJ3_checkIndex_8e157, Cond.initialized RJ3, Cond.code yJ3_checkIndex_8e157 cJ3_checkIndex_8e157 3 (some .int), Cond.methodLink RJx4a65c 123 yJx4a65c_elementData_915e3, Cond.instanceMethod yJx4a65c_elementData_915e3, Cond.selects RJx4a65c yJx4a65c_elementData_915e3 yJx4a65c_elementData_915e3, Cond.code yJx4a65c_elementData_915e3 cJx4a65c_elementData_915e3 2 (some (.object "java/lang/Object")), Cond.methodLink RX6 106 yX6_yearOf, Cond.static yX6_yearOf, Cond.code yX6_yearOf cX6_yearOf 1 (some .int), Cond.methodLink RX6 109 yX4_restsIn, Cond.instanceMethod yX4_restsIn, Cond.selects RX4 yX4_restsIn yX4_restsIn, Cond.code yX4_restsIn cX4_restsIn 3 (some .boolean), Cond.methodLink RX6 112 yX4_faceAt, Cond.instanceMethod yX4_faceAt, Cond.selects RX4 yX4_faceAt yX4_faceAt, Cond.code yX4_faceAt cX4_faceAt 2 (some (.object "ResinWoods$Face")), Cond.classLink RX4 49 "ResinWoods$Face", Cond.methodLink RX4 39 ⟨"java/util/List", "size", "()I"⟩, Cond.methodLink RX4 45 ⟨"java/util/List", "get", "(I)Ljava/lang/Object;"⟩]
def wsL_law_r13 : List Cond := [Cond.methodLink RX6 116 yX1_mayBeCutOn, Cond.instanceMethod yX1_mayBeCutOn, Cond.selects RX1 yX1_mayBeCutOn yX1_mayBeCutOn, Cond.code yX1_mayBeCutOn cX1_mayBeCutOn 2 (some .boolean), Cond.methodLink RX6 121 yX4_streakOn, Cond.instanceMethod yX4_streakOn, Cond.selects RX4 yX4_streakOn yX4_streakOn, Cond.code yX4_streakOn cX4_streakOn 3 (some .int), Cond.fieldLink RX4 63 "ResinWoods$Face" "streaks" "I", Cond.fieldLink RX4 66 "ResinWoods$Face" "latest" "I", Cond.methodLink RX6 125 yX4_mayOpen, Cond.instanceMethod yX4_mayOpen, Cond.selects RX4 yX4_mayOpen yX4_mayOpen, Cond.code yX4_mayOpen cX4_mayOpen 2 (some .boolean), Cond.methodLink RX6 128 yX4_openFace, Cond.instanceMethod yX4_openFace, Cond.selects RX4 yX4_openFace yX4_openFace, Cond.code yX4_openFace cX4_openFace 3 (some (.object "ResinWoods$Face")), Cond.classLink RX4 49 RX1, Cond.fieldLink RX4 56 "ResinWoods$Face" "openedIn" "I", Cond.methodLink RX4 59 ⟨"java/util/List", "add", "(Ljava/lang/Object;)Z"⟩, Cond.methodLink RL 32 yX7_cut, Cond.instanceMethod yX7_cut, Cond.selects RX7 yX7_cut yX7_cut]
def wsL_law_r14 : List Cond := [Cond.code yX7_cut cX7_cut 4 (some .int), Cond.methodLink RX7 103 yX7_isTree, Cond.instanceMethod yX7_isTree, Cond.selects RX7 yX7_isTree yX7_isTree, Cond.code yX7_isTree cX7_isTree 2 (some .boolean), Cond.methodLink RX7 107 yX7_rests, Cond.instanceMethod yX7_rests, Cond.selects RX7 yX7_rests yX7_rests, Cond.code yX7_rests cX7_rests 5 (some .boolean), Cond.methodLink RX7 110 yX7_bears, Cond.methodLink RL 33 yX6_rests, Cond.instanceMethod yX6_rests, Cond.selects RX6 yX6_rests yX6_rests, Cond.code yX6_rests cX6_rests 3 (some .boolean), Cond.methodLink RL 37 yX7_rests, Cond.methodLink RL 38 yX6_go, Cond.instanceMethod yX6_go, Cond.selects RX6 yX6_go yX6_go, Cond.code yX6_go cX6_go 3 (some .int), Cond.methodLink RX6 131 Lib.Math.min.name, Cond.methodLink RX6 137 yX6_endDay, Cond.instanceMethod yX6_endDay, Cond.selects RX6 yX6_endDay yX6_endDay, Cond.code yX6_endDay cX6_endDay 4 none]
def wsL_law_r15 : List Cond := [Cond.fieldLink RX6 154 "ResinWoods$Tree" "faces" "Ljava/util/List;", Cond.classLink RX6 117 "ResinWoods$Face", Cond.methodLink RX6 247 yX1_endDay, Cond.instanceMethod yX1_endDay, Cond.selects RX1 yX1_endDay yX1_endDay, Cond.code yX1_endDay cX1_endDay 6 none, Cond.fieldLink RX1 35 "ResinWoods$Tally" "ran" "I", Cond.fieldLink RX1 40 "ResinWoods$Tally" "ranOver" "I", Cond.fieldLink RX1 48 "ResinWoods$Tally" "washed" "I", Cond.methodLink RX1 31 yX1_strengthOn, Cond.instanceMethod yX1_strengthOn, Cond.selects RX1 yX1_strengthOn yX1_strengthOn, Cond.code yX1_strengthOn cX1_strengthOn 3 (some .int), Cond.methodLink RX1 41 yX1_gradeOn, Cond.instanceMethod yX1_gradeOn, Cond.selects RX1 yX1_gradeOn yX1_gradeOn, Cond.code yX1_gradeOn cX1_gradeOn 2 (some .int), Cond.methodLink RX1 60 Lib.Math.min.name, Cond.methodLink RX1 65 Lib.Math.max.name, Cond.methodLink RX1 44 yX1_catchInCup, Cond.instanceMethod yX1_catchInCup, Cond.selects RX1 yX1_catchInCup yX1_catchInCup, Cond.code yX1_catchInCup cX1_catchInCup 4 (some .int), Cond.methodLink RX1 51 yX1_washBy]
def wsL_law_r16 : List Cond := [Cond.instanceMethod yX1_washBy, Cond.selects RX1 yX1_washBy yX1_washBy, Cond.code yX1_washBy cX1_washBy 5 (some .int), Cond.methodLink RL 41 yX7_go, Cond.instanceMethod yX7_go, Cond.selects RX7 yX7_go yX7_go, Cond.code yX7_go cX7_go 5 (some .int), Cond.methodLink RX7 114 yX7_runs, Cond.instanceMethod yX7_runs, Cond.selects RX7 yX7_runs yX7_runs, Cond.code yX7_runs cX7_runs 5 none, Cond.fieldLink RX7 131 "ResinWoodsModel" "over" "I", Cond.fieldLink RX7 134 "ResinWoodsModel" "ran" "I", Cond.methodLink RX7 121 yX7_strength, Cond.static yX7_strength, Cond.code yX7_strength cX7_strength 1 (some .int), Cond.methodLink RX7 124 yX7_inCup, Cond.instanceMethod yX7_inCup, Cond.selects RX7 yX7_inCup yX7_inCup, Cond.code yX7_inCup cX7_inCup 4 (some .int), Cond.methodLink RX7 127 yX7_gradeOf, Cond.instanceMethod yX7_gradeOf, Cond.selects RX7 yX7_gradeOf yX7_gradeOf, Cond.code yX7_gradeOf cX7_gradeOf 4 (some .int)]
def wsL_law_r17 : List Cond := [Cond.methodLink RX7 118 yX7_washes, Cond.instanceMethod yX7_washes, Cond.selects RX7 yX7_washes yX7_washes, Cond.code yX7_washes cX7_washes 4 none, Cond.fieldLink RX7 137 "ResinWoodsModel" "washed" "I", Cond.methodLink RL 42 yX6_face, Cond.instanceMethod yX6_face, Cond.selects RX6 yX6_face yX6_face, Cond.code yX6_face cX6_face 6 (some .int), Cond.methodLink RX6 140 yX1_tell, Cond.instanceMethod yX1_tell, Cond.selects RX1 yX1_tell yX1_tell, Cond.code yX1_tell cX1_tell 2 (some .int), Cond.methodLink RL 45 yX7_face, Cond.instanceMethod yX7_face, Cond.selects RX7 yX7_face yX7_face, Cond.code yX7_face cX7_face 5 (some .int), Cond.methodLink RL 46 yX6_empty, Cond.instanceMethod yX6_empty, Cond.selects RX6 yX6_empty yX6_empty, Cond.code yX6_empty cX6_empty 5 (some .int), Cond.fieldLink RX6 146 "ResinWoods$Tree" "wood" "LResinWoods$Wood;", Cond.fieldLink RX6 165 "ResinWoods$Wood" "emptied" "I", Cond.methodLink RX6 143 yX4_inCups]
def wsL_law_r18 : List Cond := [Cond.instanceMethod yX4_inCups, Cond.selects RX4 yX4_inCups yX4_inCups, Cond.code yX4_inCups cX4_inCups 3 (some .int), Cond.fieldLink RX4 69 "ResinWoods$Face" "has" "I", Cond.methodLink RX6 150 yX6_newBarrelsFor, Cond.static yX6_newBarrelsFor, Cond.code yX6_newBarrelsFor cX6_newBarrelsFor 4 (some .int), Cond.methodLink RX6 250 yX5_openBarrel, Cond.instanceMethod yX5_openBarrel, Cond.selects RX5 yX5_openBarrel yX5_openBarrel, Cond.code yX5_openBarrel cX5_openBarrel 1 (some (.object "ResinWoods$Barrel")), Cond.methodLink RX5 30 yX0_isFull, Cond.instanceMethod yX0_isFull, Cond.selects RX0 yX0_isFull yX0_isFull, Cond.initialized RX0, Cond.code yX0_isFull cX0_isFull 1 (some .boolean), Cond.fieldLink RX0 9 "ResinWoods$Barrel" "has" "I", Cond.methodLink RX0 46 yX0_isGone, Cond.instanceMethod yX0_isGone, Cond.selects RX0 yX0_isGone yX0_isGone, Cond.code yX0_isGone cX0_isGone 1 (some .boolean), Cond.fieldLink RX0 22 "ResinWoods$Barrel" "isStilled" "Z", Cond.fieldLink RX0 26 "ResinWoods$Barrel" "isPaid" "Z", Cond.methodLink RX6 254 yX0_room]
def wsL_law_r19 : List Cond := [Cond.instanceMethod yX0_room, Cond.selects RX0 yX0_room yX0_room, Cond.code yX0_room cX0_room 1 (some .int), Cond.methodLink RX6 161 yX6_pourCup, Cond.instanceMethod yX6_pourCup, Cond.selects RX6 yX6_pourCup yX6_pourCup, Cond.code yX6_pourCup cX6_pourCup 4 none, Cond.fieldLink RX6 257 "ResinWoods$Face" "ofGrade" "[I", Cond.methodLink RX6 260 yX6_pour, Cond.instanceMethod yX6_pour, Cond.selects RX6 yX6_pour yX6_pour, Cond.code yX6_pour cX6_pour 7 none, Cond.classLink RX6 171 RX0, Cond.instantiable RX0 6, Cond.fieldLink RX6 270 "ResinWoods$Wood" "latest" "LResinWoods$Barrel;", Cond.fieldLink RX6 177 "ResinWoods$Tree" "number" "I", Cond.methodLink RX6 267 yX0_init, Cond.instanceMethod yX0_init, Cond.code yX0_init cX0_init 2 none, Cond.methodLink RX0 3 objectInit, Cond.fieldLink RX0 15 "ResinWoods$Barrel" "ofGrade" "[I", Cond.fieldLink RX0 19 "ResinWoods$Barrel" "ofTree" "[I", Cond.fieldLink RX0 29 "ResinWoods$Barrel" "wood" "LResinWoods$Wood;", Cond.methodLink RX6 274 yX0_fill]
def wsL_law_r20 : List Cond := [Cond.instanceMethod yX0_fill, Cond.selects RX0 yX0_fill yX0_fill, Cond.code yX0_fill cX0_fill 5 (some .int), Cond.methodLink RX0 52 Lib.Math.min.name, Cond.methodLink RX0 49 yX0_room, Cond.methodLink RX6 264 yX1_clearCup, Cond.instanceMethod yX1_clearCup, Cond.selects RX1 yX1_clearCup yX1_clearCup, Cond.code yX1_clearCup cX1_clearCup 2 none, Cond.methodLink RL 49 yX7_empty, Cond.instanceMethod yX7_empty, Cond.selects RX7 yX7_empty yX7_empty, Cond.code yX7_empty cX7_empty 6 (some .int), Cond.fieldLink RX7 143 "ResinWoodsModel" "barrels" "I", Cond.fieldLink RX7 156 "ResinWoodsModel" "emptied" "I", Cond.methodLink RX7 149 yX7_room, Cond.instanceMethod yX7_room, Cond.selects RX7 yX7_room yX7_room, Cond.code yX7_room cX7_room 4 (some .int), Cond.methodLink RX7 146 yX7_isFull, Cond.instanceMethod yX7_isFull, Cond.selects RX7 yX7_isFull yX7_isFull, Cond.code yX7_isFull cX7_isFull 2 (some .boolean), Cond.methodLink RX7 140 yX7_has]
def wsL_law_r21 : List Cond := [Cond.instanceMethod yX7_has, Cond.selects RX7 yX7_has yX7_has, Cond.code yX7_has cX7_has 4 (some .int), Cond.methodLink RX7 152 yX7_fills, Cond.instanceMethod yX7_fills, Cond.selects RX7 yX7_fills yX7_fills, Cond.code yX7_fills cX7_fills 8 none, Cond.methodLink RL 50 yX6_barrel, Cond.instanceMethod yX6_barrel, Cond.selects RX6 yX6_barrel yX6_barrel, Cond.code yX6_barrel cX6_barrel 4 (some .int), Cond.methodLink RX6 166 yX6_barrelAt, Cond.instanceMethod yX6_barrelAt, Cond.selects RX6 yX6_barrelAt yX6_barrelAt, Cond.code yX6_barrelAt cX6_barrelAt 2 (some (.object "ResinWoods$Barrel")), Cond.classLink RX6 171 "ResinWoods$Barrel", Cond.methodLink RX6 170 yX0_tell, Cond.instanceMethod yX0_tell, Cond.selects RX0 yX0_tell yX0_tell, Cond.code yX0_tell cX0_tell 2 (some .int), Cond.fieldLink RX0 37 "ResinWoods$Wood" "number" "I", Cond.methodLink RX0 33 yX0_gradeOf, Cond.instanceMethod yX0_gradeOf, Cond.selects RX0 yX0_gradeOf yX0_gradeOf]
def wsL_law_r22 : List Cond := [Cond.code yX0_gradeOf cX0_gradeOf 3 (some .int), Cond.methodLink RX0 42 yX0_isFull, Cond.methodLink RL 53 yX7_barrel, Cond.instanceMethod yX7_barrel, Cond.selects RX7 yX7_barrel yX7_barrel, Cond.code yX7_barrel cX7_barrel 3 (some .int), Cond.methodLink RX7 159 yX7_isBarrel, Cond.instanceMethod yX7_isBarrel, Cond.selects RX7 yX7_isBarrel yX7_isBarrel, Cond.code yX7_isBarrel cX7_isBarrel 2 (some .boolean), Cond.methodLink RX7 162 yX7_grade, Cond.instanceMethod yX7_grade, Cond.selects RX7 yX7_grade yX7_grade, Cond.code yX7_grade cX7_grade 4 (some .int), Cond.methodLink RL 54 yX6_from, Cond.instanceMethod yX6_from, Cond.selects RX6 yX6_from yX6_from, Cond.code yX6_from cX6_from 5 (some .int), Cond.fieldLink RX6 173 "ResinWoods$Barrel" "ofTree" "[I", Cond.methodLink RL 57 yX7_from, Cond.instanceMethod yX7_from, Cond.selects RX7 yX7_from yX7_from, Cond.code yX7_from cX7_from 3 (some .int), Cond.methodLink RL 58 yX6_still]
def wsL_law_r23 : List Cond := [Cond.instanceMethod yX6_still, Cond.selects RX6 yX6_still yX6_still, Cond.code yX6_still cX6_still 3 (some .int), Cond.fieldLink RX6 184 "ResinWoods$Barrel" "isStilled" "Z", Cond.methodLink RX6 180 yX0_isGone, Cond.methodLink RX6 187 yX0_spiritOf, Cond.instanceMethod yX0_spiritOf, Cond.selects RX0 yX0_spiritOf yX0_spiritOf, Cond.code yX0_spiritOf cX0_spiritOf 1 (some .int), Cond.methodLink RX6 190 yX0_rosinOf, Cond.instanceMethod yX0_rosinOf, Cond.selects RX0 yX0_rosinOf yX0_rosinOf, Cond.code yX0_rosinOf cX0_rosinOf 1 (some .int), Cond.methodLink RL 61 yX7_still, Cond.instanceMethod yX7_still, Cond.selects RX7 yX7_still yX7_still, Cond.code yX7_still cX7_still 4 (some .int), Cond.fieldLink RX7 165 "ResinWoodsModel" "spirit" "I", Cond.fieldLink RX7 168 "ResinWoodsModel" "rosin" "I", Cond.methodLink RL 62 yX6_let, Cond.instanceMethod yX6_let, Cond.selects RX6 yX6_let yX6_let, Cond.code yX6_let cX6_let 4 (some .boolean), Cond.methodLink RX6 193 yX5_letFor]
def wsL_law_r24 : List Cond := [Cond.instanceMethod yX5_letFor, Cond.selects RX5 yX5_letFor yX5_letFor, Cond.code yX5_letFor cX5_letFor 2 none, Cond.methodLink RL 66 yX7_let, Cond.instanceMethod yX7_let, Cond.selects RX7 yX7_let yX7_let, Cond.code yX7_let cX7_let 3 (some .boolean), Cond.methodLink RX7 171 yX7_isWood, Cond.static yX7_isWood, Cond.code yX7_isWood cX7_isWood 1 (some .boolean), Cond.methodLink RL 67 yX6_due, Cond.instanceMethod yX6_due, Cond.selects RX6 yX6_due yX6_due, Cond.code yX6_due cX6_due 3 (some .int), Cond.methodLink RX6 196 yX5_stillDue, Cond.instanceMethod yX5_stillDue, Cond.selects RX5 yX5_stillDue yX5_stillDue, Cond.code yX5_stillDue cX5_stillDue 1 (some .int), Cond.methodLink RL 70 yX7_due, Cond.instanceMethod yX7_due, Cond.selects RX7 yX7_due yX7_due, Cond.code yX7_due cX7_due 2 (some .int), Cond.constantLong RX7 174 (100), Cond.methodLink RL 71 yX6_pay]
def wsL_law_r25 : List Cond := [Cond.instanceMethod yX6_pay, Cond.selects RX6 yX6_pay yX6_pay, Cond.code yX6_pay cX6_pay 3 (some .int), Cond.fieldLink RX6 199 "ResinWoods$Barrel" "wood" "LResinWoods$Wood;", Cond.fieldLink RX6 200 "ResinWoods$Wood" "isLet" "Z", Cond.constant RX6 203 (-2147483648), Cond.fieldLink RX6 204 "ResinWoods$Barrel" "isPaid" "Z", Cond.fieldLink RX6 207 "ResinWoods$Wood" "paid" "I", Cond.fieldLink RX6 210 "ResinWoods$Barrel" "has" "I", Cond.methodLink RL 74 yX7_pay, Cond.instanceMethod yX7_pay, Cond.selects RX7 yX7_pay yX7_pay, Cond.code yX7_pay cX7_pay 2 (some .int), Cond.constant RX7 176 (-2147483648), Cond.methodLink RX7 177 yX7_due, Cond.methodLink RL 75 yX6_burn, Cond.instanceMethod yX6_burn, Cond.selects RX6 yX6_burn yX6_burn, Cond.code yX6_burn cX6_burn 6 (some .int), Cond.fieldLink RX6 213 "ResinWoods$Wood" "number" "I", Cond.methodLink RX6 214 yX4_takeFire, Cond.instanceMethod yX4_takeFire, Cond.selects RX4 yX4_takeFire yX4_takeFire, Cond.code yX4_takeFire cX4_takeFire 3 (some .int)]
def wsL_law_r26 : List Cond := [Cond.methodLink RX4 72 yX4_inCups, Cond.methodLink RX4 75 yX1_clearCup, Cond.methodLink RL 78 yX7_burn, Cond.instanceMethod yX7_burn, Cond.selects RX7 yX7_burn yX7_burn, Cond.code yX7_burn cX7_burn 5 (some .int), Cond.fieldLink RX7 180 "ResinWoodsModel" "burnt" "I", Cond.methodLink RL 79 yX6_walk, Cond.instanceMethod yX6_walk, Cond.selects RX6 yX6_walk yX6_walk, Cond.code yX6_walk cX6_walk 5 (some .int), Cond.fieldLink RX6 221 "ResinWoods$Planner" "size" "I", Cond.fieldLink RX6 223 "ResinWoods$Planner" "numbers" "[I", Cond.fieldLink RX6 226 "ResinWoods$Planner" "best" "[I", Cond.methodLink RX6 217 yX6_planWalk, Cond.instanceMethod yX6_planWalk, Cond.selects RX6 yX6_planWalk yX6_planWalk, Cond.code yX6_planWalk cX6_planWalk 8 (some .boolean), Cond.methodLink RX6 278 yJ6_bitCount_0f7a4, Cond.static yJ6_bitCount_0f7a4, Cond.initialized RJ6, Cond.code yJ6_bitCount_0f7a4 cJ6_bitCount_0f7a4 1 (some .int), Cond.constant RJ6 265 (1431655765), Cond.constant RJ6 266 (858993459)]
def wsL_law_r27 : List Cond := [Cond.constant RJ6 267 (252645135), Cond.methodLink RX6 283 yX2_begin, Cond.instanceMethod yX2_begin, Cond.selects RX2 yX2_begin yX2_begin, Cond.code yX2_begin cX2_begin 1 none, Cond.methodLink RX6 286 yX2_join, Cond.instanceMethod yX2_join, Cond.selects RX2 yX2_join yX2_join, Cond.code yX2_join cX2_join 4 (some .int), Cond.methodLink RX2 61 Lib.Math.min.name, Cond.fieldLink RX2 67 "ResinWoods$Tree" "number" "I", Cond.fieldLink RX2 72 "ResinWoods$Tree" "where" "I", Cond.methodLink RX6 290 yX6_foreseeTree, Cond.instanceMethod yX6_foreseeTree, Cond.selects RX6 yX6_foreseeTree yX6_foreseeTree, Cond.code yX6_foreseeTree cX6_foreseeTree 6 none, Cond.fieldLink RX6 298 "ResinWoods$Planner" "cup" "LResinWoods$Face;", Cond.fieldLink RX6 306 "ResinWoods$Planner" "unread" "LResinWoods$Tally;", Cond.fieldLink RX6 309 "ResinWoods$Planner" "spills" "[[I", Cond.fieldLink RX6 313 "ResinWoods$Face" "ranOver" "I", Cond.methodLink RX6 302 yX1_standInFor, Cond.instanceMethod yX1_standInFor, Cond.selects RX1 yX1_standInFor yX1_standInFor, Cond.code yX1_standInFor cX1_standInFor 3 none]
def wsL_law_r28 : List Cond := [Cond.static yX2_visit, Cond.code yX2_visit cX2_visit 7 none, Cond.methodLink RX2 75 yX2_beatsBest, Cond.instanceMethod yX2_beatsBest, Cond.selects RX2 yX2_beatsBest yX2_beatsBest, Cond.code yX2_beatsBest cX2_beatsBest 3 (some .boolean), Cond.methodLink RX2 79 yX2_keepBest, Cond.instanceMethod yX2_keepBest, Cond.selects RX2 yX2_keepBest yX2_keepBest, Cond.code yX2_keepBest cX2_keepBest 4 none, Cond.methodLink RX2 83 yX2_stepsBetween, Cond.static yX2_stepsBetween, Cond.code yX2_stepsBetween cX2_stepsBetween 2 (some .int), Cond.methodLink RX2 93 Lib.Math.abs.name, Cond.static Lib.Math.abs.name, Cond.code Lib.Math.abs.name Lib.Math.abs.code 1 (some .int), Cond.methodLink RX2 86 yX2_spilledBy, Cond.instanceMethod yX2_spilledBy, Cond.selects RX2 yX2_spilledBy yX2_spilledBy, Cond.code yX2_spilledBy cX2_spilledBy 3 (some .int), Cond.methodLink RX2 89 yX2_visit, Cond.methodLink RL 83 yX7_walk, Cond.instanceMethod yX7_walk, Cond.selects RX7 yX7_walk yX7_walk]
def wsL_law_r29 : List Cond := [Cond.code yX7_walk cX7_walk 6 (some .int), Cond.methodLink RX7 203 yX7_walks, Cond.instanceMethod yX7_walks, Cond.selects RX7 yX7_walks yX7_walks, Cond.code yX7_walks cX7_walks 13 (some .int), Cond.fieldLink RX7 189 "ResinWoodsModel" "bestOver" "I", Cond.fieldLink RX7 200 "ResinWoodsModel" "bestSteps" "I", Cond.methodLink RX7 183 yX7_chooses, Cond.instanceMethod yX7_chooses, Cond.selects RX7 yX7_chooses yX7_chooses, Cond.code yX7_chooses cX7_chooses 5 (some .int), Cond.methodLink RX7 186 yX7_foresees, Cond.instanceMethod yX7_foresees, Cond.selects RX7 yX7_foresees yX7_foresees, Cond.code yX7_foresees cX7_foresees 13 none, Cond.methodLink RX7 192 yX7_orders, Cond.instanceMethod yX7_orders, Cond.selects RX7 yX7_orders yX7_orders, Cond.code yX7_orders cX7_orders 9 none, Cond.methodLink RX7 196 yX7_apart, Cond.static yX7_apart, Cond.code yX7_apart cX7_apart 4 (some .int), Cond.methodLink RL 84 yX6_walked, Cond.instanceMethod yX6_walked]
def wsL_law_r30 : List Cond := [Cond.selects RX6 yX6_walked yX6_walked, Cond.code yX6_walked cX6_walked 5 (some .int), Cond.fieldLink RX6 229 "ResinWoods$Planner" "bestOver" "I", Cond.fieldLink RX6 232 "ResinWoods$Planner" "bestSteps" "I", Cond.methodLink RL 87 yX7_walked, Cond.instanceMethod yX7_walked, Cond.selects RX7 yX7_walked yX7_walked, Cond.code yX7_walked cX7_walked 5 (some .int), Cond.methodLink RL 88 yX6_count, Cond.instanceMethod yX6_count, Cond.selects RX6 yX6_count yX6_count, Cond.code yX6_count cX6_count 2 (some .int), Cond.fieldLink RX6 235 "ResinWoods$Tally" "ran" "I", Cond.fieldLink RX6 238 "ResinWoods$Tally" "ranOver" "I", Cond.fieldLink RX6 241 "ResinWoods$Tally" "washed" "I", Cond.methodLink RX6 244 yX6_inAllCups, Cond.instanceMethod yX6_inAllCups, Cond.selects RX6 yX6_inAllCups yX6_inAllCups, Cond.code yX6_inAllCups cX6_inAllCups 3 (some .int), Cond.methodLink RL 91 yX7_count, Cond.instanceMethod yX7_count, Cond.selects RX7 yX7_count yX7_count, Cond.code yX7_count cX7_count 4 (some .int)]
def wsL_law : List Cond := (wsL_law_r1 ++ (wsL_law_r2 ++ (wsL_law_r3 ++ (wsL_law_r4 ++ (wsL_law_r5 ++ (wsL_law_r6 ++ (wsL_law_r7 ++ (wsL_law_r8 ++ (wsL_law_r9 ++ (wsL_law_r10 ++ (wsL_law_r11 ++ (wsL_law_r12 ++ (wsL_law_r13 ++ (wsL_law_r14 ++ (wsL_law_r15 ++ (wsL_law_r16 ++ (wsL_law_r17 ++ (wsL_law_r18 ++ (wsL_law_r19 ++ (wsL_law_r20 ++ (wsL_law_r21 ++ (wsL_law_r22 ++ (wsL_law_r23 ++ (wsL_law_r24 ++ (wsL_law_r25 ++ (wsL_law_r26 ++ (wsL_law_r27 ++ (wsL_law_r28 ++ (wsL_law_r29 ++ wsL_law_r30))))))))))))))))))))))))))))) ++ wsX60 ++ wsX70 ++ wsJx4a65c0 ++ wsX30 ++ wsX20 ++ wsX50 ++ wsX10 ++ wsX40 ++ wsX00 ++ ([] : List Cond)
theorem mem_r {big : List Cond} (ws : List Cond) (ps : List Nat) (hp : ws = ps.filterMap (fun i => big[i]?)) : ∀ w ∈ ws, w ∈ big := by
  intro w hw
  rw [hp] at hw
  obtain ⟨i, -, hi⟩ := List.mem_filterMap.mp hw
  exact List.mem_of_getElem? hi
theorem mem_ap {big a b : List Cond} (ha : ∀ w ∈ a, w ∈ big) (hb : ∀ w ∈ b, w ∈ big) : ∀ w ∈ a ++ b, w ∈ big := fun w h => (List.mem_append.mp h).elim (ha w) (hb w)
set_option maxRecDepth 20000 in
theorem wsL_in_r1 : ∀ w ∈ wsL_law_r1, w ∈ lw_tbl := mem_r _ [49, 50, 31, 715, 716, 39, 51, 52, 53, 54, 55, 56, 85, 226, 227, 57, 228, 59, 60, 34, 229, 230, 86, 87] (by decide +kernel)
set_option maxRecDepth 20000 in
theorem wsL_in_r2 : ∀ w ∈ wsL_law_r2, w ∈ lw_tbl := mem_r _ [35, 231, 108, 109, 36, 232, 233, 234, 235, 236, 237, 196, 38, 61, 62, 63, 71, 73, 64, 65, 33, 66, 75, 67] (by decide +kernel)
set_option maxRecDepth 20000 in
theorem wsL_in_r3 : ∀ w ∈ wsL_law_r3, w ∈ lw_tbl := mem_r _ [68, 32, 69, 70, 89, 90, 91, 92, 95, 98, 111, 112, 113, 151, 147, 153, 155, 114, 156, 158, 159, 148, 161, 116] (by decide +kernel)
set_option maxRecDepth 20000 in
theorem wsL_in_r4 : ∀ w ∈ wsL_law_r4, w ∈ lw_tbl := mem_r _ [117, 37, 162, 149, 164, 166, 167, 169, 119, 120, 121, 122, 124, 126, 128, 130, 132, 197, 198, 199, 200, 204, 206, 207] (by decide +kernel)
set_option maxRecDepth 20000 in
theorem wsL_in_r5 : ∀ w ∈ wsL_law_r5, w ∈ lw_tbl := mem_r _ [209, 211, 201, 717, 718, 719, 720, 722, 723, 725, 726, 727, 728, 729, 730, 731, 732, 733, 734, 735, 736, 738, 739, 740] (by decide +kernel)
set_option maxRecDepth 20000 in
theorem wsL_in_r6 : ∀ w ∈ wsL_law_r6, w ∈ lw_tbl := mem_r _ [741, 742, 743, 744, 745, 746, 754, 755, 756, 757, 263, 264, 265, 266, 287, 288, 40, 267, 269, 0, 270, 271, 272, 273] (by decide +kernel)
set_option maxRecDepth 20000 in
theorem wsL_in_r7 : ∀ w ∈ wsL_law_r7, w ∈ lw_tbl := mem_r _ [274, 275, 276, 278, 282, 284, 286, 74, 289, 290, 291, 292, 293, 294, 295, 296, 306, 308, 310, 298, 301, 303, 305, 297] (by decide +kernel)
set_option maxRecDepth 20000 in
theorem wsL_in_r8 : ∀ w ∈ wsL_law_r8, w ∈ lw_tbl := mem_r _ [327, 330, 332, 334, 76, 77, 335, 337, 1, 338, 339, 341, 2, 342, 343, 345, 3, 346, 385, 351, 42, 352, 386, 347] (by decide +kernel)
set_option maxRecDepth 20000 in
theorem wsL_in_r9 : ∀ w ∈ wsL_law_r9, w ∈ lw_tbl := mem_r _ [348, 41, 349, 350, 353, 354, 355, 356, 357, 358, 43, 359, 360, 998, 361, 372, 373, 374, 375, 376, 378, 379, 380, 381] (by decide +kernel)
set_option maxRecDepth 20000 in
theorem wsL_in_r10 : ∀ w ∈ wsL_law_r10, w ∈ lw_tbl := mem_r _ [382, 384, 383, 44, 839, 840, 841, 842, 724, 843, 844, 845, 387, 388, 389, 390, 846, 847, 848, 849, 391, 392, 393, 394] (by decide +kernel)
set_option maxRecDepth 20000 in
theorem wsL_in_r11 : ∀ w ∈ wsL_law_r11, w ∈ lw_tbl := mem_r _ [395, 396, 397, 850, 851, 852, 853, 721, 398, 399, 400, 401, 309, 402, 404, 4, 405, 287, 407, 410, 412, 414, 415, 416] (by decide +kernel)
set_option maxRecDepth 20000 in
theorem wsL_in_r12 : ∀ w ∈ wsL_law_r12, w ∈ lw_tbl := mem_r _ [45, 417, 418, 419, 46, 420, 421, 422, 423, 424, 425, 426, 427, 428, 429, 430, 431, 432, 433, 434, 435, 440, 437, 439] (by decide +kernel)
set_option maxRecDepth 20000 in
theorem wsL_in_r13 : ∀ w ∈ wsL_law_r13, w ∈ lw_tbl := mem_r _ [441, 442, 443, 444, 445, 446, 447, 448, 123, 125, 450, 451, 452, 453, 454, 455, 456, 457, 440, 127, 460, 854, 855, 856] (by decide +kernel)
set_option maxRecDepth 20000 in
theorem wsL_in_r14 : ∀ w ∈ wsL_law_r14, w ∈ lw_tbl := mem_r _ [857, 858, 860, 15, 861, 862, 863, 864, 865, 866, 461, 462, 463, 464, 867, 465, 466, 467, 468, 469, 470, 472, 5, 473] (by decide +kernel)
set_option maxRecDepth 20000 in
theorem wsL_in_r15 : ∀ w ∈ wsL_law_r15, w ∈ lw_tbl := mem_r _ [307, 474, 475, 476, 477, 478, 93, 96, 99, 479, 480, 481, 482, 485, 486, 487, 488, 490, 491, 492, 493, 494, 495, 496] (by decide +kernel)
set_option maxRecDepth 20000 in
theorem wsL_in_r16 : ∀ w ∈ wsL_law_r16, w ∈ lw_tbl := mem_r _ [497, 498, 499, 868, 869, 870, 871, 872, 874, 16, 875, 748, 747, 876, 877, 878, 879, 881, 17, 882, 883, 885, 18, 886] (by decide +kernel)
set_option maxRecDepth 20000 in
theorem wsL_in_r17 : ∀ w ∈ wsL_law_r17, w ∈ lw_tbl := mem_r _ [887, 889, 19, 890, 749, 500, 501, 502, 503, 504, 505, 506, 507, 891, 892, 893, 894, 508, 509, 510, 511, 302, 208, 512] (by decide +kernel)
set_option maxRecDepth 20000 in
theorem wsL_in_r18 : ∀ w ∈ wsL_law_r18, w ∈ lw_tbl := mem_r _ [513, 514, 515, 129, 516, 517, 518, 519, 520, 521, 522, 523, 524, 525, 47, 526, 551, 527, 528, 529, 530, 556, 558, 531] (by decide +kernel)
set_option maxRecDepth 20000 in
theorem wsL_in_r19 : ∀ w ∈ wsL_law_r19, w ∈ lw_tbl := mem_r _ [532, 533, 534, 535, 537, 6, 538, 133, 539, 541, 7, 542, 543, 544, 212, 300, 545, 546, 547, 548, 553, 554, 549, 573] (by decide +kernel)
set_option maxRecDepth 20000 in
theorem wsL_in_r20 : ∀ w ∈ wsL_law_r20, w ∈ lw_tbl := mem_r _ [574, 575, 576, 578, 577, 579, 580, 581, 582, 895, 896, 897, 898, 737, 751, 899, 901, 20, 902, 903, 905, 21, 906, 907] (by decide +kernel)
set_option maxRecDepth 20000 in
theorem wsL_in_r21 : ∀ w ∈ wsL_law_r21, w ∈ lw_tbl := mem_r _ [909, 22, 910, 911, 913, 23, 914, 583, 584, 585, 586, 587, 589, 8, 590, 543, 591, 592, 593, 594, 202, 595, 596, 597] (by decide +kernel)
set_option maxRecDepth 20000 in
theorem wsL_in_r22 : ∀ w ∈ wsL_law_r22, w ∈ lw_tbl := mem_r _ [598, 599, 915, 916, 917, 918, 919, 921, 24, 922, 923, 925, 25, 926, 600, 601, 602, 603, 555, 927, 928, 929, 930, 604] (by decide +kernel)
set_option maxRecDepth 20000 in
theorem wsL_in_r23 : ∀ w ∈ wsL_law_r23, w ∈ lw_tbl := mem_r _ [605, 606, 607, 557, 608, 609, 610, 611, 612, 613, 614, 615, 616, 931, 932, 933, 934, 752, 753, 619, 620, 621, 622, 623] (by decide +kernel)
set_option maxRecDepth 20000 in
theorem wsL_in_r24 : ∀ w ∈ wsL_law_r24, w ∈ lw_tbl := mem_r _ [624, 625, 626, 935, 936, 937, 938, 939, 940, 941, 627, 628, 629, 630, 631, 632, 633, 634, 942, 943, 944, 945, 946, 635] (by decide +kernel)
set_option maxRecDepth 20000 in
theorem wsL_in_r25 : ∀ w ∈ wsL_law_r25, w ∈ lw_tbl := mem_r _ [636, 637, 638, 550, 205, 639, 559, 210, 552, 947, 948, 949, 950, 951, 952, 640, 641, 642, 643, 203, 644, 645, 646, 647] (by decide +kernel)
set_option maxRecDepth 20000 in
theorem wsL_in_r26 : ∀ w ∈ wsL_law_r26, w ∈ lw_tbl := mem_r _ [648, 649, 953, 954, 955, 956, 750, 650, 651, 652, 653, 152, 154, 160, 654, 656, 9, 657, 658, 659, 48, 660, 661, 662] (by decide +kernel)
set_option maxRecDepth 20000 in
theorem wsL_in_r27 : ∀ w ∈ wsL_law_r27, w ∈ lw_tbl := mem_r _ [663, 664, 665, 666, 667, 668, 669, 670, 671, 672, 299, 304, 673, 675, 10, 676, 163, 165, 157, 131, 677, 678, 679, 680] (by decide +kernel)
set_option maxRecDepth 20000 in
theorem wsL_in_r28 : ∀ w ∈ wsL_law_r28, w ∈ lw_tbl := mem_r _ [682, 683, 684, 686, 11, 687, 688, 690, 12, 691, 692, 693, 694, 695, 696, 697, 698, 700, 13, 701, 702, 957, 958, 959] (by decide +kernel)
set_option maxRecDepth 20000 in
theorem wsL_in_r29 : ∀ w ∈ wsL_law_r29, w ∈ lw_tbl := mem_r _ [960, 961, 963, 26, 964, 758, 759, 965, 967, 27, 968, 969, 971, 28, 972, 973, 975, 29, 976, 977, 978, 979, 703, 704] (by decide +kernel)
set_option maxRecDepth 20000 in
theorem wsL_in_r30 : ∀ w ∈ wsL_law_r30, w ∈ lw_tbl := mem_r _ [705, 706, 168, 170, 980, 981, 982, 983, 707, 708, 709, 710, 94, 97, 100, 711, 713, 14, 714, 984, 985, 986, 987] (by decide +kernel)
set_option maxRecDepth 20000 in
theorem inX6 : ∀ w ∈ wsX60, w ∈ lw_tbl := mem_r _ [238, 240, 242, 244, 246, 248, 250, 252, 254, 256, 258, 260] (by decide +kernel)
set_option maxRecDepth 20000 in
theorem inX7 : ∀ w ∈ wsX70, w ∈ lw_tbl := mem_r _ [760, 762, 764, 766, 768, 770, 772, 774, 776, 778, 780, 782, 784, 786, 788, 790, 792, 794, 796, 798, 800, 802, 804, 806, 808, 810, 812, 814, 816, 818, 820, 822, 824, 826, 828, 830, 832, 834, 836] (by decide +kernel)
set_option maxRecDepth 20000 in
theorem inJx4a65c : ∀ w ∈ wsJx4a65c0, w ∈ lw_tbl := mem_r _ [82, 78, 80] (by decide +kernel)
set_option maxRecDepth 20000 in
theorem inX3 : ∀ w ∈ wsX30, w ∈ lw_tbl := mem_r _ [101, 103, 105] (by decide +kernel)
set_option maxRecDepth 20000 in
theorem inX2 : ∀ w ∈ wsX20, w ∈ lw_tbl := mem_r _ [171, 173, 175, 177, 179, 181, 183, 185, 187, 189, 191, 193] (by decide +kernel)
set_option maxRecDepth 20000 in
theorem inX5 : ∀ w ∈ wsX50, w ∈ lw_tbl := mem_r _ [213, 215, 217, 219, 221, 223] (by decide +kernel)
set_option maxRecDepth 20000 in
theorem inX1 : ∀ w ∈ wsX10, w ∈ lw_tbl := mem_r _ [134, 136, 138, 140, 142, 144] (by decide +kernel)
set_option maxRecDepth 20000 in
theorem inX4 : ∀ w ∈ wsX40, w ∈ lw_tbl := mem_r _ [311, 313, 315, 317, 319, 321, 323] (by decide +kernel)
set_option maxRecDepth 20000 in
theorem inX0 : ∀ w ∈ wsX00, w ∈ lw_tbl := mem_r _ [560, 562, 564, 566, 568, 570] (by decide +kernel)
theorem wsL_law_in : ∀ w ∈ wsL_law, w ∈ lw_tbl := mem_ap (mem_ap (mem_ap (mem_ap (mem_ap (mem_ap (mem_ap (mem_ap (mem_ap (mem_ap (mem_ap wsL_in_r1 (mem_ap wsL_in_r2 (mem_ap wsL_in_r3 (mem_ap wsL_in_r4 (mem_ap wsL_in_r5 (mem_ap wsL_in_r6 (mem_ap wsL_in_r7 (mem_ap wsL_in_r8 (mem_ap wsL_in_r9 (mem_ap wsL_in_r10 (mem_ap wsL_in_r11 (mem_ap wsL_in_r12 (mem_ap wsL_in_r13 (mem_ap wsL_in_r14 (mem_ap wsL_in_r15 (mem_ap wsL_in_r16 (mem_ap wsL_in_r17 (mem_ap wsL_in_r18 (mem_ap wsL_in_r19 (mem_ap wsL_in_r20 (mem_ap wsL_in_r21 (mem_ap wsL_in_r22 (mem_ap wsL_in_r23 (mem_ap wsL_in_r24 (mem_ap wsL_in_r25 (mem_ap wsL_in_r26 (mem_ap wsL_in_r27 (mem_ap wsL_in_r28 (mem_ap wsL_in_r29 wsL_in_r30))))))))))))))))))))))))))))) inX6) inX7) inJx4a65c) inX3) inX2) inX5) inX1) inX4) inX0) (fun _ h => absurd h List.not_mem_nil)
set_option maxRecDepth 20000 in
theorem ggL_law_X6_init : GoodIn wsL_law wsX6_init := goodIn_r _ [8, 9, 10, 11, 12, 13, 14, 15, 16, 17, 18, 19, 20, 21, 22, 23, 24, 25, 26, 27, 28, 29, 30, 31, 32, 33, 34, 35, 36, 37, 38, 39, 40, 41, 42, 43, 44, 45, 46, 47, 48, 49, 50, 51, 52, 53, 54, 55, 56, 57, 58, 59, 60, 61, 62, 63, 64, 65, 66, 67, 68, 69, 70, 71, 72, 73, 74, 75, 76, 77, 78, 79, 80, 81, 82, 83, 84, 85, 86, 87, 88, 89, 90, 91, 92, 93, 94, 95, 96, 97, 98, 719, 720, 721, 722, 723, 724, 725, 726, 727, 728, 729, 730, 770, 771, 772, 773, 774, 775, 776, 777, 778, 779, 780, 781, 782, 783, 784, 785, 786, 787, 788, 789, 790, 791, 792, 793, 794, 795, 796, 797, 798, 799] (by decide +kernel) (by decide +kernel)
set_option maxRecDepth 20000 in
theorem gL_law_X6_init : GoodIn wsL_law (wsX6_init) := ggL_law_X6_init
set_option maxRecDepth 20000 in
theorem ggL_law_X7_init : GoodIn wsL_law wsX7_init := goodIn_r _ [101, 102, 10, 11, 62, 103, 104, 105, 106, 107, 108, 69, 109, 110, 111, 112, 113, 114, 115, 116, 117, 118, 119, 120, 121, 122, 123, 124, 125, 126, 127, 128, 129, 731, 732, 733, 734, 735, 736, 737, 738, 739, 740, 741, 742, 743, 744, 745, 746, 747, 748, 749, 750, 751, 752, 753, 754, 755, 756, 757, 758, 759, 760, 761, 762, 763, 764, 765, 766, 767, 768, 769] (by decide +kernel) (by decide +kernel)
set_option maxRecDepth 20000 in
theorem gL_law_X7_init : GoodIn wsL_law (wsX7_init) := ggL_law_X7_init
set_option maxRecDepth 20000 in
theorem ggL_law_X6_tree : GoodIn wsL_law wsX6_tree := goodIn_r _ [133, 20, 134, 135, 136, 137, 138, 139, 2, 140, 16, 141, 142, 143, 144, 145, 146, 147, 148, 149, 19, 150, 151, 152, 153, 154, 155, 156, 157, 158, 10, 11, 159, 18, 160, 161, 162, 163, 164, 165, 166, 167, 38, 39, 40, 41, 42, 43, 44, 45, 46, 47, 48, 49, 50, 51, 168, 169, 170, 171, 172, 173, 174, 175, 176, 177, 178, 179, 180, 181, 182, 183, 184, 185, 186, 187, 188, 189, 190, 191, 192, 193, 194, 195, 196, 197, 198, 199, 200, 201, 202, 203, 204, 205, 206, 207, 208, 209, 210, 211, 212, 213, 214, 215, 216, 217, 218, 219, 719, 720, 721, 722, 723, 724, 725, 726, 727, 728, 729, 730, 800, 801, 802, 803, 804, 805, 806, 770, 771, 772] (by decide +kernel) (by decide +kernel)
set_option maxRecDepth 20000 in
theorem gL_law_X6_tree : GoodIn wsL_law (wsV RL 13 RX6 yX6_tree wsX6_tree) := goodIn_app (goodIn_of _ (by decide +kernel)) ggL_law_X6_tree
set_option maxRecDepth 20000 in
theorem ggL_law_X7_tree : GoodIn wsL_law wsX7_tree := goodIn_r _ [223, 224, 105, 106, 107, 108, 225, 226, 5, 227, 731, 732, 733, 734, 735, 736, 737, 738, 739, 740, 741, 742, 743, 744, 745, 746, 747, 748, 749, 750, 751, 752, 753, 754, 755, 756, 757, 758, 759, 760, 761, 762, 763, 764, 765, 766, 767, 768, 769] (by decide +kernel) (by decide +kernel)
set_option maxRecDepth 20000 in
theorem gL_law_X7_tree : GoodIn wsL_law (wsV RL 17 RX7 yX7_tree wsX7_tree) := goodIn_app (goodIn_of _ (by decide +kernel)) ggL_law_X7_tree
set_option maxRecDepth 20000 in
theorem ggL_law_X6_bears : GoodIn wsL_law wsX6_bears := goodIn_r _ [231, 144, 145, 2, 146, 152, 153, 154] (by decide +kernel) (by decide +kernel)
set_option maxRecDepth 20000 in
theorem gL_law_X6_bears : GoodIn wsL_law (wsV RL 18 RX6 yX6_bears wsX6_bears) := goodIn_app (goodIn_of _ (by decide +kernel)) ggL_law_X6_bears
set_option maxRecDepth 20000 in
theorem ggL_law_X7_bears : GoodIn wsL_law wsX7_bears := goodIn_r _ [235, 225, 226, 5, 227] (by decide +kernel) (by decide +kernel)
set_option maxRecDepth 20000 in
theorem gL_law_X7_bears : GoodIn wsL_law (wsV RL 22 RX7 yX7_bears wsX7_bears) := goodIn_app (goodIn_of _ (by decide +kernel)) ggL_law_X7_bears
set_option maxRecDepth 20000 in
theorem ggL_law_X6_weather : GoodIn wsL_law wsX6_weather := goodIn_r _ [239, 30, 13, 14, 240, 241, 2, 242, 719, 720, 721, 722, 723, 724, 725, 726, 727, 728, 729, 730] (by decide +kernel) (by decide +kernel)
set_option maxRecDepth 20000 in
theorem gL_law_X6_weather : GoodIn wsL_law (wsV RL 23 RX6 yX6_weather wsX6_weather) := goodIn_app (goodIn_of _ (by decide +kernel)) ggL_law_X6_weather
set_option maxRecDepth 20000 in
theorem ggL_law_X7_weather : GoodIn wsL_law wsX7_weather := goodIn_r _ [246, 247, 103, 104, 225, 226, 5, 227, 731, 732, 733, 734, 735, 736, 737, 738, 739, 740, 741, 742, 743, 744, 745, 746, 747, 748, 749, 750, 751, 752, 753, 754, 755, 756, 757, 758, 759, 760, 761, 762, 763, 764, 765, 766, 767, 768, 769] (by decide +kernel) (by decide +kernel)
set_option maxRecDepth 20000 in
theorem gL_law_X7_weather : GoodIn wsL_law (wsV RL 27 RX7 yX7_weather wsX7_weather) := goodIn_app (goodIn_of _ (by decide +kernel)) ggL_law_X7_weather
set_option maxRecDepth 20000 in
theorem ggL_law_X6_cut : GoodIn wsL_law wsX6_cut := goodIn_r _ [251, 252, 30, 253, 254, 255, 2, 256, 20, 257, 147, 148, 149, 19, 150, 151, 258, 259, 260, 261, 262, 263, 264, 265, 266, 267, 268, 269, 270, 271, 272, 273, 41, 274, 275, 276, 277, 278, 279, 136, 280, 162, 281, 282, 283, 284, 160, 285, 286, 287, 288, 289, 290, 73, 291, 83, 84, 292, 293, 294, 295, 296, 297, 298, 299, 300, 301, 166, 302, 303, 304, 305, 306, 72, 307, 80, 81, 82, 10, 11, 85, 86, 87, 62, 88, 308, 169, 170, 171, 172, 173, 174, 175, 176, 177, 178, 179, 180, 181, 182, 183, 184, 185, 40, 186, 187, 188, 189, 190, 191, 192, 193, 194, 195, 196, 197, 198, 199, 200, 201, 202, 203, 204, 205, 206, 207, 208, 209, 210, 211, 212, 213, 214, 215, 216, 217, 218, 219, 800, 801, 802, 803, 804, 805, 806, 719, 720, 721, 722, 723, 724, 725, 726, 727, 728, 729, 730, 770, 771, 772, 794, 795, 796, 797, 798, 799] (by decide +kernel) (by decide +kernel)
set_option maxRecDepth 20000 in
theorem gL_law_X6_cut : GoodIn wsL_law (wsV RL 28 RX6 yX6_cut wsX6_cut) := goodIn_app (goodIn_of _ (by decide +kernel)) ggL_law_X6_cut
set_option maxRecDepth 20000 in
theorem ggL_law_X7_cut : GoodIn wsL_law wsX7_cut := goodIn_r _ [312, 109, 110, 108, 247, 113, 112, 114, 111, 313, 314, 315, 5, 316, 224, 225, 226, 227, 317, 318, 319, 320, 321, 233, 234, 235, 731, 732, 733, 734, 735, 736, 737, 738, 739, 740, 741, 742, 743, 744, 745, 746, 747, 748, 749, 750, 751, 752, 753, 754, 755, 756, 757, 758, 759, 760, 761, 762, 763, 764, 765, 766, 767, 768, 769] (by decide +kernel) (by decide +kernel)
set_option maxRecDepth 20000 in
theorem gL_law_X7_cut : GoodIn wsL_law (wsV RL 32 RX7 yX7_cut wsX7_cut) := goodIn_app (goodIn_of _ (by decide +kernel)) ggL_law_X7_cut
set_option maxRecDepth 20000 in
theorem ggL_law_X6_rests : GoodIn wsL_law wsX6_rests := goodIn_r _ [325, 30, 253, 254, 255, 2, 256, 20, 257, 147, 148, 149, 19, 150, 151, 258, 259, 260, 261, 262, 263, 264, 265, 266, 267, 268, 269, 270, 271, 272, 273, 41, 274, 275, 276, 277, 278, 279, 136, 280, 162, 719, 720, 721, 722, 723, 724, 725, 726, 727, 728, 729, 730, 770, 771, 772, 800, 801, 802, 803, 804, 805, 806] (by decide +kernel) (by decide +kernel)
set_option maxRecDepth 20000 in
theorem gL_law_X6_rests : GoodIn wsL_law (wsV RL 33 RX6 yX6_rests wsX6_rests) := goodIn_app (goodIn_of _ (by decide +kernel)) ggL_law_X6_rests
set_option maxRecDepth 20000 in
theorem ggL_law_X7_rests : GoodIn wsL_law wsX7_rests := goodIn_r _ [320, 247, 111, 313, 314, 315, 5, 316, 224, 225, 226, 227, 731, 732, 733, 734, 735, 736, 737, 738, 739, 740, 741, 742, 743, 744, 745, 746, 747, 748, 749, 750, 751, 752, 753, 754, 755, 756, 757, 758, 759, 760, 761, 762, 763, 764, 765, 766, 767, 768, 769] (by decide +kernel) (by decide +kernel)
set_option maxRecDepth 20000 in
theorem gL_law_X7_rests : GoodIn wsL_law (wsV RL 37 RX7 yX7_rests wsX7_rests) := goodIn_app (goodIn_of _ (by decide +kernel)) ggL_law_X7_rests
set_option maxRecDepth 20000 in
theorem ggL_law_X6_go : GoodIn wsL_law wsX6_go := goodIn_r _ [330, 30, 331, 214, 188, 215, 332, 333, 334, 2, 335, 20, 257, 252, 336, 337, 13, 14, 25, 147, 148, 149, 19, 150, 151, 258, 259, 260, 261, 262, 263, 264, 265, 266, 267, 268, 269, 270, 271, 272, 273, 41, 338, 339, 340, 73, 341, 342, 343, 86, 344, 345, 346, 347, 348, 84, 349, 350, 351, 352, 85, 353, 354, 187, 189, 275, 276, 355, 356, 357, 358, 88, 87, 359, 360, 361, 362, 719, 720, 721, 722, 723, 724, 725, 726, 727, 728, 729, 730, 800, 801, 802, 803, 804, 805, 806, 770, 771, 772, 773, 774, 775, 794, 795, 796, 797, 798, 799] (by decide +kernel) (by decide +kernel)
set_option maxRecDepth 20000 in
theorem gL_law_X6_go : GoodIn wsL_law (wsV RL 38 RX6 yX6_go wsX6_go) := goodIn_app (goodIn_of _ (by decide +kernel)) ggL_law_X6_go
set_option maxRecDepth 20000 in
theorem ggL_law_X7_go : GoodIn wsL_law wsX7_go := goodIn_r _ [366, 247, 224, 110, 109, 225, 226, 5, 227, 367, 368, 369, 370, 103, 113, 115, 116, 371, 372, 373, 374, 375, 376, 377, 378, 379, 380, 381, 382, 383, 114, 384, 385, 386, 387, 104, 388, 731, 732, 733, 734, 735, 736, 737, 738, 739, 740, 741, 742, 743, 744, 745, 746, 747, 748, 749, 750, 751, 752, 753, 754, 755, 756, 757, 758, 759, 760, 761, 762, 763, 764, 765, 766, 767, 768, 769] (by decide +kernel) (by decide +kernel)
set_option maxRecDepth 20000 in
theorem gL_law_X7_go : GoodIn wsL_law (wsV RL 41 RX7 yX7_go wsX7_go) := goodIn_app (goodIn_of _ (by decide +kernel)) ggL_law_X7_go
set_option maxRecDepth 20000 in
theorem ggL_law_X6_face : GoodIn wsL_law wsX6_face := goodIn_r _ [392, 253, 254, 255, 2, 256, 20, 257, 147, 148, 149, 19, 150, 151, 258, 259, 260, 261, 262, 263, 264, 265, 266, 267, 268, 269, 270, 271, 272, 273, 41, 281, 282, 283, 136, 284, 160, 285, 286, 287, 393, 394, 395, 73, 396, 83, 84, 85, 86, 88, 87, 719, 720, 721, 722, 723, 724, 725, 726, 727, 728, 729, 730, 770, 771, 772, 800, 801, 802, 803, 804, 805, 806, 794, 795, 796, 797, 798, 799] (by decide +kernel) (by decide +kernel)
set_option maxRecDepth 20000 in
theorem gL_law_X6_face : GoodIn wsL_law (wsV RL 42 RX6 yX6_face wsX6_face) := goodIn_app (goodIn_of _ (by decide +kernel)) ggL_law_X6_face
set_option maxRecDepth 20000 in
theorem ggL_law_X7_face : GoodIn wsL_law wsX7_face := goodIn_r _ [400, 110, 115, 112, 113, 114, 116, 313, 314, 315, 5, 316, 224, 225, 226, 227, 376, 377, 378, 379, 731, 732, 733, 734, 735, 736, 737, 738, 739, 740, 741, 742, 743, 744, 745, 746, 747, 748, 749, 750, 751, 752, 753, 754, 755, 756, 757, 758, 759, 760, 761, 762, 763, 764, 765, 766, 767, 768, 769] (by decide +kernel) (by decide +kernel)
set_option maxRecDepth 20000 in
theorem gL_law_X7_face : GoodIn wsL_law (wsV RL 45 RX7 yX7_face wsX7_face) := goodIn_app (goodIn_of _ (by decide +kernel)) ggL_law_X7_face
set_option maxRecDepth 20000 in
theorem ggL_law_X6_empty : GoodIn wsL_law wsX6_empty := goodIn_r _ [404, 21, 405, 336, 337, 406, 31, 253, 254, 255, 2, 256, 20, 257, 147, 148, 149, 19, 150, 151, 258, 259, 260, 261, 262, 263, 264, 265, 266, 267, 268, 269, 270, 271, 272, 273, 41, 407, 408, 409, 136, 410, 160, 285, 411, 286, 287, 412, 413, 414, 415, 416, 417, 36, 418, 97, 419, 420, 421, 422, 423, 424, 425, 426, 427, 428, 429, 430, 431, 432, 433, 434, 435, 436, 437, 438, 439, 440, 441, 442, 443, 444, 445, 446, 447, 448, 449, 450, 451, 10, 11, 62, 452, 453, 454, 168, 169, 170, 171, 172, 173, 174, 175, 176, 177, 178, 179, 180, 181, 182, 183, 184, 185, 40, 186, 187, 188, 189, 190, 191, 192, 193, 194, 195, 196, 197, 198, 199, 200, 201, 202, 203, 204, 205, 206, 207, 208, 209, 210, 211, 212, 213, 214, 215, 216, 217, 218, 219, 455, 456, 457, 458, 459, 460, 461, 462, 463, 73, 464, 86, 88, 719, 720, 721, 722, 723, 724, 725, 726, 727, 728, 729, 730, 800, 801, 802, 803, 804, 805, 806, 788, 789, 790, 791, 792, 793, 770, 771, 772, 794, 795, 796, 797, 798, 799, 807, 808, 809, 810, 811, 812] (by decide +kernel) (by decide +kernel)
set_option maxRecDepth 20000 in
theorem gL_law_X6_empty : GoodIn wsL_law (wsV RL 46 RX6 yX6_empty wsX6_empty) := goodIn_app (goodIn_of _ (by decide +kernel)) ggL_law_X6_empty
set_option maxRecDepth 20000 in
theorem ggL_law_X7_empty : GoodIn wsL_law wsX7_empty := goodIn_r _ [468, 110, 105, 469, 115, 470, 124, 313, 314, 315, 5, 316, 224, 225, 226, 227, 376, 377, 378, 379, 471, 472, 473, 474, 117, 475, 476, 477, 478, 120, 121, 479, 480, 481, 482, 118, 483, 484, 485, 486, 119, 731, 732, 733, 734, 735, 736, 737, 738, 739, 740, 741, 742, 743, 744, 745, 746, 747, 748, 749, 750, 751, 752, 753, 754, 755, 756, 757, 758, 759, 760, 761, 762, 763, 764, 765, 766, 767, 768, 769] (by decide +kernel) (by decide +kernel)
set_option maxRecDepth 20000 in
theorem gL_law_X7_empty : GoodIn wsL_law (wsV RL 49 RX7 yX7_empty wsX7_empty) := goodIn_app (goodIn_of _ (by decide +kernel)) ggL_law_X7_empty
set_option maxRecDepth 20000 in
theorem ggL_law_X6_barrel : GoodIn wsL_law wsX6_barrel := goodIn_r _ [490, 491, 492, 493, 2, 494, 21, 495, 147, 148, 149, 19, 150, 151, 258, 259, 260, 261, 262, 263, 264, 265, 266, 267, 268, 269, 270, 271, 272, 273, 41, 496, 497, 498, 422, 499, 424, 452, 454, 500, 429, 430, 501, 502, 503, 504, 505, 420, 421, 423, 425, 426, 427, 428, 719, 720, 721, 722, 723, 724, 725, 726, 727, 728, 729, 730, 770, 771, 772, 807, 808, 809, 810, 811, 812, 788, 789, 790, 791, 792, 793] (by decide +kernel) (by decide +kernel)
set_option maxRecDepth 20000 in
theorem gL_law_X6_barrel : GoodIn wsL_law (wsV RL 50 RX6 yX6_barrel wsX6_barrel) := goodIn_app (goodIn_of _ (by decide +kernel)) ggL_law_X6_barrel
set_option maxRecDepth 20000 in
theorem ggL_law_X7_barrel : GoodIn wsL_law wsX7_barrel := goodIn_r _ [509, 118, 117, 120, 121, 510, 511, 512, 5, 513, 469, 225, 226, 227, 479, 480, 481, 482, 514, 515, 516, 517, 475, 476, 477, 478, 731, 732, 733, 734, 735, 736, 737, 738, 739, 740, 741, 742, 743, 744, 745, 746, 747, 748, 749, 750, 751, 752, 753, 754, 755, 756, 757, 758, 759, 760, 761, 762, 763, 764, 765, 766, 767, 768, 769] (by decide +kernel) (by decide +kernel)
set_option maxRecDepth 20000 in
theorem gL_law_X7_barrel : GoodIn wsL_law (wsV RL 53 RX7 yX7_barrel wsX7_barrel) := goodIn_app (goodIn_of _ (by decide +kernel)) ggL_law_X7_barrel
set_option maxRecDepth 20000 in
theorem ggL_law_X6_from : GoodIn wsL_law wsX6_from := goodIn_r _ [521, 522, 447, 491, 492, 493, 2, 494, 21, 495, 147, 148, 149, 19, 150, 151, 258, 259, 260, 261, 262, 263, 264, 265, 266, 267, 268, 269, 270, 271, 272, 273, 41, 253, 254, 255, 256, 20, 257, 807, 808, 809, 810, 811, 812, 800, 801, 802, 803, 804, 805, 806, 719, 720, 721, 722, 723, 724, 725, 726, 727, 728, 729, 730, 770, 771, 772] (by decide +kernel) (by decide +kernel)
set_option maxRecDepth 20000 in
theorem gL_law_X6_from : GoodIn wsL_law (wsV RL 54 RX6 yX6_from wsX6_from) := goodIn_app (goodIn_of _ (by decide +kernel)) ggL_law_X6_from
set_option maxRecDepth 20000 in
theorem ggL_law_X7_from : GoodIn wsL_law wsX7_from := goodIn_r _ [526, 119, 510, 511, 512, 5, 513, 469, 225, 226, 227, 313, 314, 315, 316, 224, 731, 732, 733, 734, 735, 736, 737, 738, 739, 740, 741, 742, 743, 744, 745, 746, 747, 748, 749, 750, 751, 752, 753, 754, 755, 756, 757, 758, 759, 760, 761, 762, 763, 764, 765, 766, 767, 768, 769] (by decide +kernel) (by decide +kernel)
set_option maxRecDepth 20000 in
theorem gL_law_X7_from : GoodIn wsL_law (wsV RL 57 RX7 yX7_from wsX7_from) := goodIn_app (goodIn_of _ (by decide +kernel)) ggL_law_X7_from
set_option maxRecDepth 20000 in
theorem ggL_law_X6_still : GoodIn wsL_law wsX6_still := goodIn_r _ [530, 531, 33, 34, 491, 492, 493, 2, 494, 21, 495, 147, 148, 149, 19, 150, 151, 258, 259, 260, 261, 262, 263, 264, 265, 266, 267, 268, 269, 270, 271, 272, 273, 41, 532, 426, 427, 422, 428, 429, 430, 533, 534, 535, 536, 424, 537, 538, 539, 540, 459, 214, 188, 215, 501, 502, 503, 504, 452, 807, 808, 809, 810, 811, 812, 719, 720, 721, 722, 723, 724, 725, 726, 727, 728, 729, 730, 770, 771, 772] (by decide +kernel) (by decide +kernel)
set_option maxRecDepth 20000 in
theorem gL_law_X6_still : GoodIn wsL_law (wsV RL 58 RX6 yX6_still wsX6_still) := goodIn_app (goodIn_of _ (by decide +kernel)) ggL_law_X6_still
set_option maxRecDepth 20000 in
theorem ggL_law_X7_still : GoodIn wsL_law wsX7_still := goodIn_r _ [544, 120, 121, 545, 546, 510, 511, 512, 5, 513, 469, 225, 226, 227, 479, 480, 481, 482, 118, 514, 515, 516, 517, 731, 732, 733, 734, 735, 736, 737, 738, 739, 740, 741, 742, 743, 744, 745, 746, 747, 748, 749, 750, 751, 752, 753, 754, 755, 756, 757, 758, 759, 760, 761, 762, 763, 764, 765, 766, 767, 768, 769] (by decide +kernel) (by decide +kernel)
set_option maxRecDepth 20000 in
theorem gL_law_X7_still : GoodIn wsL_law (wsV RL 61 RX7 yX7_still wsX7_still) := goodIn_app (goodIn_of _ (by decide +kernel)) ggL_law_X7_still
set_option maxRecDepth 20000 in
theorem ggL_law_X6_let : GoodIn wsL_law wsX6_let := goodIn_r _ [550, 137, 138, 139, 2, 140, 16, 551, 552, 553, 36, 554, 93, 94, 95, 96, 719, 720, 721, 722, 723, 724, 725, 726, 727, 728, 729, 730, 788, 789, 790, 791, 792, 793] (by decide +kernel) (by decide +kernel)
set_option maxRecDepth 20000 in
theorem gL_law_X6_let : GoodIn wsL_law (wsV RL 62 RX6 yX6_let wsX6_let) := goodIn_app (goodIn_of _ (by decide +kernel)) ggL_law_X6_let
set_option maxRecDepth 20000 in
theorem ggL_law_X7_let : GoodIn wsL_law wsX7_let := goodIn_r _ [558, 122, 123, 124, 125, 559, 560, 5, 561, 225, 226, 227, 731, 732, 733, 734, 735, 736, 737, 738, 739, 740, 741, 742, 743, 744, 745, 746, 747, 748, 749, 750, 751, 752, 753, 754, 755, 756, 757, 758, 759, 760, 761, 762, 763, 764, 765, 766, 767, 768, 769] (by decide +kernel) (by decide +kernel)
set_option maxRecDepth 20000 in
theorem gL_law_X7_let : GoodIn wsL_law (wsV RL 66 RX7 yX7_let wsX7_let) := goodIn_app (goodIn_of _ (by decide +kernel)) ggL_law_X7_let
set_option maxRecDepth 20000 in
theorem ggL_law_X6_due : GoodIn wsL_law wsX6_due := goodIn_r _ [565, 137, 138, 139, 2, 140, 16, 566, 567, 568, 36, 569, 93, 95, 94, 96, 719, 720, 721, 722, 723, 724, 725, 726, 727, 728, 729, 730, 788, 789, 790, 791, 792, 793] (by decide +kernel) (by decide +kernel)
set_option maxRecDepth 20000 in
theorem gL_law_X6_due : GoodIn wsL_law (wsV RL 67 RX6 yX6_due wsX6_due) := goodIn_app (goodIn_of _ (by decide +kernel)) ggL_law_X6_due
set_option maxRecDepth 20000 in
theorem ggL_law_X7_due : GoodIn wsL_law wsX7_due := goodIn_r _ [573, 122, 124, 123, 574, 125, 559, 560, 5, 561, 225, 226, 227, 731, 732, 733, 734, 735, 736, 737, 738, 739, 740, 741, 742, 743, 744, 745, 746, 747, 748, 749, 750, 751, 752, 753, 754, 755, 756, 757, 758, 759, 760, 761, 762, 763, 764, 765, 766, 767, 768, 769] (by decide +kernel) (by decide +kernel)
set_option maxRecDepth 20000 in
theorem gL_law_X7_due : GoodIn wsL_law (wsV RL 70 RX7 yX7_due wsX7_due) := goodIn_app (goodIn_of _ (by decide +kernel)) ggL_law_X7_due
set_option maxRecDepth 20000 in
theorem ggL_law_X6_pay : GoodIn wsL_law wsX6_pay := goodIn_r _ [578, 579, 580, 581, 582, 583, 584, 491, 492, 493, 2, 494, 21, 495, 147, 148, 149, 19, 150, 151, 258, 259, 260, 261, 262, 263, 264, 265, 266, 267, 268, 269, 270, 271, 272, 273, 41, 532, 426, 427, 422, 428, 429, 430, 566, 567, 568, 36, 569, 93, 95, 94, 96, 807, 808, 809, 810, 811, 812, 788, 789, 790, 791, 792, 793, 719, 720, 721, 722, 723, 724, 725, 726, 727, 728, 729, 730, 770, 771, 772] (by decide +kernel) (by decide +kernel)
set_option maxRecDepth 20000 in
theorem gL_law_X6_pay : GoodIn wsL_law (wsV RL 71 RX6 yX6_pay wsX6_pay) := goodIn_app (goodIn_of _ (by decide +kernel)) ggL_law_X6_pay
set_option maxRecDepth 20000 in
theorem ggL_law_X7_pay : GoodIn wsL_law wsX7_pay := goodIn_r _ [588, 120, 121, 122, 117, 589, 125, 510, 511, 512, 5, 513, 469, 225, 226, 227, 479, 480, 481, 482, 118, 590, 571, 572, 573, 124, 123, 574, 559, 560, 561, 731, 732, 733, 734, 735, 736, 737, 738, 739, 740, 741, 742, 743, 744, 745, 746, 747, 748, 749, 750, 751, 752, 753, 754, 755, 756, 757, 758, 759, 760, 761, 762, 763, 764, 765, 766, 767, 768, 769] (by decide +kernel) (by decide +kernel)
set_option maxRecDepth 20000 in
theorem gL_law_X7_pay : GoodIn wsL_law (wsV RL 74 RX7 yX7_pay wsX7_pay) := goodIn_app (goodIn_of _ (by decide +kernel)) ggL_law_X7_pay
set_option maxRecDepth 20000 in
theorem ggL_law_X6_burn : GoodIn wsL_law wsX6_burn := goodIn_r _ [594, 580, 20, 257, 405, 595, 252, 32, 137, 138, 139, 2, 140, 16, 147, 148, 149, 19, 150, 151, 258, 259, 260, 261, 262, 263, 264, 265, 266, 267, 268, 269, 270, 271, 272, 273, 41, 596, 597, 598, 136, 599, 161, 160, 285, 600, 408, 409, 410, 411, 286, 287, 601, 462, 463, 73, 464, 86, 88, 788, 789, 790, 791, 792, 793, 719, 720, 721, 722, 723, 724, 725, 726, 727, 728, 729, 730, 800, 801, 802, 803, 804, 805, 806, 770, 771, 772, 794, 795, 796, 797, 798, 799] (by decide +kernel) (by decide +kernel)
set_option maxRecDepth 20000 in
theorem gL_law_X6_burn : GoodIn wsL_law (wsV RL 75 RX6 yX6_burn wsX6_burn) := goodIn_app (goodIn_of _ (by decide +kernel)) ggL_law_X6_burn
set_option maxRecDepth 20000 in
theorem ggL_law_X7_burn : GoodIn wsL_law wsX7_burn := goodIn_r _ [605, 224, 105, 109, 606, 115, 122, 559, 560, 5, 561, 225, 226, 227, 731, 732, 733, 734, 735, 736, 737, 738, 739, 740, 741, 742, 743, 744, 745, 746, 747, 748, 749, 750, 751, 752, 753, 754, 755, 756, 757, 758, 759, 760, 761, 762, 763, 764, 765, 766, 767, 768, 769] (by decide +kernel) (by decide +kernel)
set_option maxRecDepth 20000 in
theorem gL_law_X7_burn : GoodIn wsL_law (wsV RL 78 RX7 yX7_burn wsX7_burn) := goodIn_app (goodIn_of _ (by decide +kernel)) ggL_law_X7_burn
set_option maxRecDepth 20000 in
theorem ggL_law_X6_walk : GoodIn wsL_law wsX6_walk := goodIn_r _ [610, 29, 611, 612, 613, 614, 615, 616, 2, 617, 618, 619, 620, 621, 622, 623, 624, 141, 142, 143, 625, 626, 627, 28, 628, 61, 77, 253, 254, 255, 256, 20, 257, 147, 148, 149, 19, 150, 151, 258, 259, 260, 261, 262, 263, 264, 265, 266, 267, 268, 269, 270, 271, 272, 273, 41, 629, 630, 631, 632, 633, 214, 188, 215, 63, 634, 64, 635, 66, 636, 637, 638, 639, 252, 336, 640, 337, 30, 13, 14, 641, 642, 643, 644, 645, 646, 73, 647, 84, 85, 86, 87, 88, 338, 339, 340, 341, 342, 343, 344, 345, 346, 347, 348, 349, 350, 351, 352, 353, 354, 187, 189, 275, 276, 355, 356, 357, 358, 359, 360, 361, 362, 648, 649, 70, 67, 650, 651, 652, 653, 78, 79, 654, 655, 656, 657, 68, 658, 659, 660, 661, 662, 663, 664, 665, 666, 667, 668, 719, 720, 721, 722, 723, 724, 725, 726, 727, 728, 729, 730, 776, 777, 778, 779, 780, 781, 782, 783, 784, 785, 786, 787, 770, 771, 772, 800, 801, 802, 803, 804, 805, 806, 794, 795, 796, 797, 798, 799, 773, 774, 775] (by decide +kernel) (by decide +kernel)
set_option maxRecDepth 20000 in
theorem gL_law_X6_walk : GoodIn wsL_law (wsV RL 79 RX6 yX6_walk wsX6_walk) := goodIn_app (goodIn_of _ (by decide +kernel)) ggL_law_X6_walk
set_option maxRecDepth 20000 in
theorem ggL_law_X7_walk : GoodIn wsL_law wsX7_walk := goodIn_r _ [672, 126, 129, 673, 674, 675, 5, 676, 677, 128, 106, 107, 127, 678, 225, 226, 227, 679, 680, 681, 682, 224, 683, 684, 685, 686, 62, 115, 247, 110, 109, 103, 113, 104, 373, 374, 375, 380, 381, 382, 383, 114, 687, 688, 689, 690, 691, 692, 693, 731, 732, 733, 734, 735, 736, 737, 738, 739, 740, 741, 742, 743, 744, 745, 746, 747, 748, 749, 750, 751, 752, 753, 754, 755, 756, 757, 758, 759, 760, 761, 762, 763, 764, 765, 766, 767, 768, 769] (by decide +kernel) (by decide +kernel)
set_option maxRecDepth 20000 in
theorem gL_law_X7_walk : GoodIn wsL_law (wsV RL 83 RX7 yX7_walk wsX7_walk) := goodIn_app (goodIn_of _ (by decide +kernel)) ggL_law_X7_walk
set_option maxRecDepth 20000 in
theorem ggL_law_X6_walked : GoodIn wsL_law wsX6_walked := goodIn_r _ [697, 29, 698, 699, 614, 615, 616, 2, 617, 618, 619, 620, 621, 622, 623, 624, 141, 142, 143, 625, 626, 627, 28, 628, 61, 77, 253, 254, 255, 256, 20, 257, 147, 148, 149, 19, 150, 151, 258, 259, 260, 261, 262, 263, 264, 265, 266, 267, 268, 269, 270, 271, 272, 273, 41, 629, 630, 631, 632, 633, 214, 188, 215, 63, 634, 64, 635, 66, 636, 637, 638, 639, 252, 336, 640, 337, 30, 13, 14, 641, 642, 643, 644, 645, 646, 73, 647, 84, 85, 86, 87, 88, 338, 339, 340, 341, 342, 343, 344, 345, 346, 347, 348, 349, 350, 351, 352, 353, 354, 187, 189, 275, 276, 355, 356, 357, 358, 359, 360, 361, 362, 648, 649, 70, 67, 650, 651, 652, 653, 78, 79, 654, 655, 656, 657, 68, 658, 659, 660, 661, 662, 663, 664, 665, 666, 667, 668, 719, 720, 721, 722, 723, 724, 725, 726, 727, 728, 729, 730, 776, 777, 778, 779, 780, 781, 782, 783, 784, 785, 786, 787, 770, 771, 772, 800, 801, 802, 803, 804, 805, 806, 794, 795, 796, 797, 798, 799, 773, 774, 775] (by decide +kernel) (by decide +kernel)
set_option maxRecDepth 20000 in
theorem gL_law_X6_walked : GoodIn wsL_law (wsV RL 84 RX6 yX6_walked wsX6_walked) := goodIn_app (goodIn_of _ (by decide +kernel)) ggL_law_X6_walked
set_option maxRecDepth 20000 in
theorem ggL_law_X7_walked : GoodIn wsL_law wsX7_walked := goodIn_r _ [703, 677, 678, 225, 226, 5, 227, 673, 674, 675, 676, 126, 128, 106, 107, 127, 129, 679, 680, 681, 682, 224, 683, 684, 685, 686, 62, 115, 247, 110, 109, 103, 113, 104, 373, 374, 375, 380, 381, 382, 383, 114, 687, 688, 689, 690, 691, 692, 693, 731, 732, 733, 734, 735, 736, 737, 738, 739, 740, 741, 742, 743, 744, 745, 746, 747, 748, 749, 750, 751, 752, 753, 754, 755, 756, 757, 758, 759, 760, 761, 762, 763, 764, 765, 766, 767, 768, 769] (by decide +kernel) (by decide +kernel)
set_option maxRecDepth 20000 in
theorem gL_law_X7_walked : GoodIn wsL_law (wsV RL 87 RX7 yX7_walked wsX7_walked) := goodIn_app (goodIn_of _ (by decide +kernel)) ggL_law_X7_walked
set_option maxRecDepth 20000 in
theorem ggL_law_X6_count : GoodIn wsL_law wsX6_count := goodIn_r _ [707, 30, 20, 21, 25, 708, 709, 710, 32, 31, 33, 34, 147, 148, 149, 19, 150, 151, 711, 712, 713, 2, 714, 257, 258, 259, 260, 261, 262, 263, 264, 265, 266, 267, 268, 269, 270, 271, 272, 273, 41, 407, 408, 409, 136, 410, 160, 285, 411, 286, 287, 719, 720, 721, 722, 723, 724, 725, 726, 727, 728, 729, 730, 773, 774, 775, 770, 771, 772, 800, 801, 802, 803, 804, 805, 806, 794, 795, 796, 797, 798, 799] (by decide +kernel) (by decide +kernel)
set_option maxRecDepth 20000 in
theorem gL_law_X6_count : GoodIn wsL_law (wsV RL 88 RX6 yX6_count wsX6_count) := goodIn_app (goodIn_of _ (by decide +kernel)) ggL_law_X6_count
set_option maxRecDepth 20000 in
theorem ggL_law_X7_count : GoodIn wsL_law wsX7_count := goodIn_r _ [718, 247, 224, 469, 372, 371, 388, 606, 470, 545, 546, 376, 377, 378, 5, 379, 115, 731, 732, 733, 734, 735, 736, 737, 738, 739, 740, 741, 742, 743, 744, 745, 746, 747, 748, 749, 750, 751, 752, 753, 754, 755, 756, 757, 758, 759, 760, 761, 762, 763, 764, 765, 766, 767, 768, 769] (by decide +kernel) (by decide +kernel)
set_option maxRecDepth 20000 in
theorem gL_law_X7_count : GoodIn wsL_law (wsV RL 91 RX7 yX7_count wsX7_count) := goodIn_app (goodIn_of _ (by decide +kernel)) ggL_law_X7_count
theorem dL_law_0 : decode cL_law 0 = .ok (.new 7, 3) := by decide +kernel
theorem dL_law_3 : decode cL_law 3 = .ok (.dup, 1) := by decide +kernel
theorem dL_law_4 : decode cL_law 4 = .ok (.invokespecial 9, 3) := by decide +kernel
theorem dL_law_7 : decode cL_law 7 = .ok (.astore_n 1, 1) := by decide +kernel
theorem dL_law_8 : decode cL_law 8 = .ok (.new 10, 3) := by decide +kernel
theorem dL_law_11 : decode cL_law 11 = .ok (.dup, 1) := by decide +kernel
theorem dL_law_12 : decode cL_law 12 = .ok (.invokespecial 12, 3) := by decide +kernel
theorem dL_law_15 : decode cL_law 15 = .ok (.astore_n 2, 1) := by decide +kernel
theorem dL_law_16 : decode cL_law 16 = .ok (.iconst 0, 1) := by decide +kernel
theorem dL_law_17 : decode cL_law 17 = .ok (.istore_n 3, 1) := by decide +kernel
theorem dL_law_18 : decode cL_law 18 = .ok (.iload_n 3, 1) := by decide +kernel
theorem dL_law_19 : decode cL_law 19 = .ok (.aload_n 0, 1) := by decide +kernel
theorem dL_law_20 : decode cL_law 20 = .ok (.arraylength, 1) := by decide +kernel
theorem dL_law_21 : decode cL_law 21 = .ok (.iconst 5, 1) := by decide +kernel
theorem dL_law_22 : decode cL_law 22 = .ok (.isub, 1) := by decide +kernel
theorem dL_law_23 : decode cL_law 23 = .ok (.if_icmp .gt 687, 3) := by decide +kernel
theorem dL_law_26 : decode cL_law 26 = .ok (.aload_n 0, 1) := by decide +kernel
theorem dL_law_27 : decode cL_law 27 = .ok (.iload_n 3, 1) := by decide +kernel
theorem dL_law_28 : decode cL_law 28 = .ok (.iaload, 1) := by decide +kernel
theorem dL_law_29 : decode cL_law 29 = .ok (.bipush 31, 2) := by decide +kernel
theorem dL_law_31 : decode cL_law 31 = .ok (.iand, 1) := by decide +kernel
theorem dL_law_32 : decode cL_law 32 = .ok (.tableswitch 672 0 17 #[88, 131, 154, 207, 240, 263, 286, 329, 352, 385, 418, 441, 474, 497, 520, 543, 596, 649], 88) := by decide +kernel
theorem dL_law_120 : decode cL_law 120 = .ok (.aload_n 1, 1) := by decide +kernel
theorem dL_law_121 : decode cL_law 121 = .ok (.aload_n 0, 1) := by decide +kernel
theorem dL_law_122 : decode cL_law 122 = .ok (.iload_n 3, 1) := by decide +kernel
theorem dL_law_123 : decode cL_law 123 = .ok (.iconst 1, 1) := by decide +kernel
theorem dL_law_124 : decode cL_law 124 = .ok (.iadd, 1) := by decide +kernel
theorem dL_law_125 : decode cL_law 125 = .ok (.iaload, 1) := by decide +kernel
theorem dL_law_126 : decode cL_law 126 = .ok (.aload_n 0, 1) := by decide +kernel
theorem dL_law_127 : decode cL_law 127 = .ok (.iload_n 3, 1) := by decide +kernel
theorem dL_law_128 : decode cL_law 128 = .ok (.iconst 2, 1) := by decide +kernel
theorem dL_law_129 : decode cL_law 129 = .ok (.iadd, 1) := by decide +kernel
theorem dL_law_130 : decode cL_law 130 = .ok (.iaload, 1) := by decide +kernel
theorem dL_law_131 : decode cL_law 131 = .ok (.aload_n 0, 1) := by decide +kernel
theorem dL_law_132 : decode cL_law 132 = .ok (.iload_n 3, 1) := by decide +kernel
theorem dL_law_133 : decode cL_law 133 = .ok (.iconst 3, 1) := by decide +kernel
theorem dL_law_134 : decode cL_law 134 = .ok (.iadd, 1) := by decide +kernel
theorem dL_law_135 : decode cL_law 135 = .ok (.iaload, 1) := by decide +kernel
theorem dL_law_136 : decode cL_law 136 = .ok (.invokevirtual 13, 3) := by decide +kernel
theorem dL_law_139 : decode cL_law 139 = .ok (.aload_n 2, 1) := by decide +kernel
theorem dL_law_140 : decode cL_law 140 = .ok (.aload_n 0, 1) := by decide +kernel
theorem dL_law_141 : decode cL_law 141 = .ok (.iload_n 3, 1) := by decide +kernel
theorem dL_law_142 : decode cL_law 142 = .ok (.iconst 1, 1) := by decide +kernel
theorem dL_law_143 : decode cL_law 143 = .ok (.iadd, 1) := by decide +kernel
theorem dL_law_144 : decode cL_law 144 = .ok (.iaload, 1) := by decide +kernel
theorem dL_law_145 : decode cL_law 145 = .ok (.aload_n 0, 1) := by decide +kernel
theorem dL_law_146 : decode cL_law 146 = .ok (.iload_n 3, 1) := by decide +kernel
theorem dL_law_147 : decode cL_law 147 = .ok (.iconst 2, 1) := by decide +kernel
theorem dL_law_148 : decode cL_law 148 = .ok (.iadd, 1) := by decide +kernel
theorem dL_law_149 : decode cL_law 149 = .ok (.iaload, 1) := by decide +kernel
theorem dL_law_150 : decode cL_law 150 = .ok (.aload_n 0, 1) := by decide +kernel
theorem dL_law_151 : decode cL_law 151 = .ok (.iload_n 3, 1) := by decide +kernel
theorem dL_law_152 : decode cL_law 152 = .ok (.iconst 3, 1) := by decide +kernel
theorem dL_law_153 : decode cL_law 153 = .ok (.iadd, 1) := by decide +kernel
theorem dL_law_154 : decode cL_law 154 = .ok (.iaload, 1) := by decide +kernel
theorem dL_law_155 : decode cL_law 155 = .ok (.invokevirtual 17, 3) := by decide +kernel
theorem dL_law_158 : decode cL_law 158 = .ok (.if_icmp .eq 546, 3) := by decide +kernel
theorem dL_law_161 : decode cL_law 161 = .ok (.iconst 0, 1) := by decide +kernel
theorem dL_law_162 : decode cL_law 162 = .ok (.ireturn, 1) := by decide +kernel
theorem dL_law_163 : decode cL_law 163 = .ok (.aload_n 1, 1) := by decide +kernel
theorem dL_law_164 : decode cL_law 164 = .ok (.aload_n 0, 1) := by decide +kernel
theorem dL_law_165 : decode cL_law 165 = .ok (.iload_n 3, 1) := by decide +kernel
theorem dL_law_166 : decode cL_law 166 = .ok (.iconst 1, 1) := by decide +kernel
theorem dL_law_167 : decode cL_law 167 = .ok (.iadd, 1) := by decide +kernel
theorem dL_law_168 : decode cL_law 168 = .ok (.iaload, 1) := by decide +kernel
theorem dL_law_169 : decode cL_law 169 = .ok (.invokevirtual 18, 3) := by decide +kernel
theorem dL_law_172 : decode cL_law 172 = .ok (.aload_n 2, 1) := by decide +kernel
theorem dL_law_173 : decode cL_law 173 = .ok (.aload_n 0, 1) := by decide +kernel
theorem dL_law_174 : decode cL_law 174 = .ok (.iload_n 3, 1) := by decide +kernel
theorem dL_law_175 : decode cL_law 175 = .ok (.iconst 1, 1) := by decide +kernel
theorem dL_law_176 : decode cL_law 176 = .ok (.iadd, 1) := by decide +kernel
theorem dL_law_177 : decode cL_law 177 = .ok (.iaload, 1) := by decide +kernel
theorem dL_law_178 : decode cL_law 178 = .ok (.invokevirtual 22, 3) := by decide +kernel
theorem dL_law_181 : decode cL_law 181 = .ok (.if_icmp .eq 523, 3) := by decide +kernel
theorem dL_law_184 : decode cL_law 184 = .ok (.iconst 0, 1) := by decide +kernel
theorem dL_law_185 : decode cL_law 185 = .ok (.ireturn, 1) := by decide +kernel
theorem dL_law_186 : decode cL_law 186 = .ok (.aload_n 1, 1) := by decide +kernel
theorem dL_law_187 : decode cL_law 187 = .ok (.aload_n 0, 1) := by decide +kernel
theorem dL_law_188 : decode cL_law 188 = .ok (.iload_n 3, 1) := by decide +kernel
theorem dL_law_189 : decode cL_law 189 = .ok (.iconst 1, 1) := by decide +kernel
theorem dL_law_190 : decode cL_law 190 = .ok (.iadd, 1) := by decide +kernel
theorem dL_law_191 : decode cL_law 191 = .ok (.iaload, 1) := by decide +kernel
theorem dL_law_192 : decode cL_law 192 = .ok (.aload_n 0, 1) := by decide +kernel
theorem dL_law_193 : decode cL_law 193 = .ok (.iload_n 3, 1) := by decide +kernel
theorem dL_law_194 : decode cL_law 194 = .ok (.iconst 2, 1) := by decide +kernel
theorem dL_law_195 : decode cL_law 195 = .ok (.iadd, 1) := by decide +kernel
theorem dL_law_196 : decode cL_law 196 = .ok (.iaload, 1) := by decide +kernel
theorem dL_law_197 : decode cL_law 197 = .ok (.aload_n 0, 1) := by decide +kernel
theorem dL_law_198 : decode cL_law 198 = .ok (.iload_n 3, 1) := by decide +kernel
theorem dL_law_199 : decode cL_law 199 = .ok (.iconst 3, 1) := by decide +kernel
theorem dL_law_200 : decode cL_law 200 = .ok (.iadd, 1) := by decide +kernel
theorem dL_law_201 : decode cL_law 201 = .ok (.iaload, 1) := by decide +kernel
theorem dL_law_202 : decode cL_law 202 = .ok (.aload_n 0, 1) := by decide +kernel
theorem dL_law_203 : decode cL_law 203 = .ok (.iload_n 3, 1) := by decide +kernel
theorem dL_law_204 : decode cL_law 204 = .ok (.iconst 4, 1) := by decide +kernel
theorem dL_law_205 : decode cL_law 205 = .ok (.iadd, 1) := by decide +kernel
theorem dL_law_206 : decode cL_law 206 = .ok (.iaload, 1) := by decide +kernel
theorem dL_law_207 : decode cL_law 207 = .ok (.invokevirtual 23, 3) := by decide +kernel
theorem dL_law_210 : decode cL_law 210 = .ok (.aload_n 2, 1) := by decide +kernel
theorem dL_law_211 : decode cL_law 211 = .ok (.aload_n 0, 1) := by decide +kernel
theorem dL_law_212 : decode cL_law 212 = .ok (.iload_n 3, 1) := by decide +kernel
theorem dL_law_213 : decode cL_law 213 = .ok (.iconst 1, 1) := by decide +kernel
theorem dL_law_214 : decode cL_law 214 = .ok (.iadd, 1) := by decide +kernel
theorem dL_law_215 : decode cL_law 215 = .ok (.iaload, 1) := by decide +kernel
theorem dL_law_216 : decode cL_law 216 = .ok (.aload_n 0, 1) := by decide +kernel
theorem dL_law_217 : decode cL_law 217 = .ok (.iload_n 3, 1) := by decide +kernel
theorem dL_law_218 : decode cL_law 218 = .ok (.iconst 2, 1) := by decide +kernel
theorem dL_law_219 : decode cL_law 219 = .ok (.iadd, 1) := by decide +kernel
theorem dL_law_220 : decode cL_law 220 = .ok (.iaload, 1) := by decide +kernel
theorem dL_law_221 : decode cL_law 221 = .ok (.aload_n 0, 1) := by decide +kernel
theorem dL_law_222 : decode cL_law 222 = .ok (.iload_n 3, 1) := by decide +kernel
theorem dL_law_223 : decode cL_law 223 = .ok (.iconst 3, 1) := by decide +kernel
theorem dL_law_224 : decode cL_law 224 = .ok (.iadd, 1) := by decide +kernel
theorem dL_law_225 : decode cL_law 225 = .ok (.iaload, 1) := by decide +kernel
theorem dL_law_226 : decode cL_law 226 = .ok (.aload_n 0, 1) := by decide +kernel
theorem dL_law_227 : decode cL_law 227 = .ok (.iload_n 3, 1) := by decide +kernel
theorem dL_law_228 : decode cL_law 228 = .ok (.iconst 4, 1) := by decide +kernel
theorem dL_law_229 : decode cL_law 229 = .ok (.iadd, 1) := by decide +kernel
theorem dL_law_230 : decode cL_law 230 = .ok (.iaload, 1) := by decide +kernel
theorem dL_law_231 : decode cL_law 231 = .ok (.invokevirtual 27, 3) := by decide +kernel
theorem dL_law_234 : decode cL_law 234 = .ok (.if_icmp .eq 470, 3) := by decide +kernel
theorem dL_law_237 : decode cL_law 237 = .ok (.iconst 0, 1) := by decide +kernel
theorem dL_law_238 : decode cL_law 238 = .ok (.ireturn, 1) := by decide +kernel
theorem dL_law_239 : decode cL_law 239 = .ok (.aload_n 1, 1) := by decide +kernel
theorem dL_law_240 : decode cL_law 240 = .ok (.aload_n 0, 1) := by decide +kernel
theorem dL_law_241 : decode cL_law 241 = .ok (.iload_n 3, 1) := by decide +kernel
theorem dL_law_242 : decode cL_law 242 = .ok (.iconst 1, 1) := by decide +kernel
theorem dL_law_243 : decode cL_law 243 = .ok (.iadd, 1) := by decide +kernel
theorem dL_law_244 : decode cL_law 244 = .ok (.iaload, 1) := by decide +kernel
theorem dL_law_245 : decode cL_law 245 = .ok (.aload_n 0, 1) := by decide +kernel
theorem dL_law_246 : decode cL_law 246 = .ok (.iload_n 3, 1) := by decide +kernel
theorem dL_law_247 : decode cL_law 247 = .ok (.iconst 2, 1) := by decide +kernel
theorem dL_law_248 : decode cL_law 248 = .ok (.iadd, 1) := by decide +kernel
theorem dL_law_249 : decode cL_law 249 = .ok (.iaload, 1) := by decide +kernel
theorem dL_law_250 : decode cL_law 250 = .ok (.invokevirtual 28, 3) := by decide +kernel
theorem dL_law_253 : decode cL_law 253 = .ok (.aload_n 2, 1) := by decide +kernel
theorem dL_law_254 : decode cL_law 254 = .ok (.aload_n 0, 1) := by decide +kernel
theorem dL_law_255 : decode cL_law 255 = .ok (.iload_n 3, 1) := by decide +kernel
theorem dL_law_256 : decode cL_law 256 = .ok (.iconst 1, 1) := by decide +kernel
theorem dL_law_257 : decode cL_law 257 = .ok (.iadd, 1) := by decide +kernel
theorem dL_law_258 : decode cL_law 258 = .ok (.iaload, 1) := by decide +kernel
theorem dL_law_259 : decode cL_law 259 = .ok (.aload_n 0, 1) := by decide +kernel
theorem dL_law_260 : decode cL_law 260 = .ok (.iload_n 3, 1) := by decide +kernel
theorem dL_law_261 : decode cL_law 261 = .ok (.iconst 2, 1) := by decide +kernel
theorem dL_law_262 : decode cL_law 262 = .ok (.iadd, 1) := by decide +kernel
theorem dL_law_263 : decode cL_law 263 = .ok (.iaload, 1) := by decide +kernel
theorem dL_law_264 : decode cL_law 264 = .ok (.invokevirtual 32, 3) := by decide +kernel
theorem dL_law_267 : decode cL_law 267 = .ok (.if_icmp .eq 437, 3) := by decide +kernel
theorem dL_law_270 : decode cL_law 270 = .ok (.iconst 0, 1) := by decide +kernel
theorem dL_law_271 : decode cL_law 271 = .ok (.ireturn, 1) := by decide +kernel
theorem dL_law_272 : decode cL_law 272 = .ok (.aload_n 1, 1) := by decide +kernel
theorem dL_law_273 : decode cL_law 273 = .ok (.aload_n 0, 1) := by decide +kernel
theorem dL_law_274 : decode cL_law 274 = .ok (.iload_n 3, 1) := by decide +kernel
theorem dL_law_275 : decode cL_law 275 = .ok (.iconst 1, 1) := by decide +kernel
theorem dL_law_276 : decode cL_law 276 = .ok (.iadd, 1) := by decide +kernel
theorem dL_law_277 : decode cL_law 277 = .ok (.iaload, 1) := by decide +kernel
theorem dL_law_278 : decode cL_law 278 = .ok (.invokevirtual 33, 3) := by decide +kernel
theorem dL_law_281 : decode cL_law 281 = .ok (.aload_n 2, 1) := by decide +kernel
theorem dL_law_282 : decode cL_law 282 = .ok (.aload_n 0, 1) := by decide +kernel
theorem dL_law_283 : decode cL_law 283 = .ok (.iload_n 3, 1) := by decide +kernel
theorem dL_law_284 : decode cL_law 284 = .ok (.iconst 1, 1) := by decide +kernel
theorem dL_law_285 : decode cL_law 285 = .ok (.iadd, 1) := by decide +kernel
theorem dL_law_286 : decode cL_law 286 = .ok (.iaload, 1) := by decide +kernel
theorem dL_law_287 : decode cL_law 287 = .ok (.invokevirtual 37, 3) := by decide +kernel
theorem dL_law_290 : decode cL_law 290 = .ok (.if_icmp .eq 414, 3) := by decide +kernel
theorem dL_law_293 : decode cL_law 293 = .ok (.iconst 0, 1) := by decide +kernel
theorem dL_law_294 : decode cL_law 294 = .ok (.ireturn, 1) := by decide +kernel
theorem dL_law_295 : decode cL_law 295 = .ok (.aload_n 1, 1) := by decide +kernel
theorem dL_law_296 : decode cL_law 296 = .ok (.aload_n 0, 1) := by decide +kernel
theorem dL_law_297 : decode cL_law 297 = .ok (.iload_n 3, 1) := by decide +kernel
theorem dL_law_298 : decode cL_law 298 = .ok (.iconst 1, 1) := by decide +kernel
theorem dL_law_299 : decode cL_law 299 = .ok (.iadd, 1) := by decide +kernel
theorem dL_law_300 : decode cL_law 300 = .ok (.iaload, 1) := by decide +kernel
theorem dL_law_301 : decode cL_law 301 = .ok (.invokevirtual 38, 3) := by decide +kernel
theorem dL_law_304 : decode cL_law 304 = .ok (.aload_n 2, 1) := by decide +kernel
theorem dL_law_305 : decode cL_law 305 = .ok (.aload_n 0, 1) := by decide +kernel
theorem dL_law_306 : decode cL_law 306 = .ok (.iload_n 3, 1) := by decide +kernel
theorem dL_law_307 : decode cL_law 307 = .ok (.iconst 1, 1) := by decide +kernel
theorem dL_law_308 : decode cL_law 308 = .ok (.iadd, 1) := by decide +kernel
theorem dL_law_309 : decode cL_law 309 = .ok (.iaload, 1) := by decide +kernel
theorem dL_law_310 : decode cL_law 310 = .ok (.invokevirtual 41, 3) := by decide +kernel
theorem dL_law_313 : decode cL_law 313 = .ok (.if_icmp .eq 391, 3) := by decide +kernel
theorem dL_law_316 : decode cL_law 316 = .ok (.iconst 0, 1) := by decide +kernel
theorem dL_law_317 : decode cL_law 317 = .ok (.ireturn, 1) := by decide +kernel
theorem dL_law_318 : decode cL_law 318 = .ok (.aload_n 1, 1) := by decide +kernel
theorem dL_law_319 : decode cL_law 319 = .ok (.aload_n 0, 1) := by decide +kernel
theorem dL_law_320 : decode cL_law 320 = .ok (.iload_n 3, 1) := by decide +kernel
theorem dL_law_321 : decode cL_law 321 = .ok (.iconst 1, 1) := by decide +kernel
theorem dL_law_322 : decode cL_law 322 = .ok (.iadd, 1) := by decide +kernel
theorem dL_law_323 : decode cL_law 323 = .ok (.iaload, 1) := by decide +kernel
theorem dL_law_324 : decode cL_law 324 = .ok (.aload_n 0, 1) := by decide +kernel
theorem dL_law_325 : decode cL_law 325 = .ok (.iload_n 3, 1) := by decide +kernel
theorem dL_law_326 : decode cL_law 326 = .ok (.iconst 2, 1) := by decide +kernel
theorem dL_law_327 : decode cL_law 327 = .ok (.iadd, 1) := by decide +kernel
theorem dL_law_328 : decode cL_law 328 = .ok (.iaload, 1) := by decide +kernel
theorem dL_law_329 : decode cL_law 329 = .ok (.aload_n 0, 1) := by decide +kernel
theorem dL_law_330 : decode cL_law 330 = .ok (.iload_n 3, 1) := by decide +kernel
theorem dL_law_331 : decode cL_law 331 = .ok (.iconst 3, 1) := by decide +kernel
theorem dL_law_332 : decode cL_law 332 = .ok (.iadd, 1) := by decide +kernel
theorem dL_law_333 : decode cL_law 333 = .ok (.iaload, 1) := by decide +kernel
theorem dL_law_334 : decode cL_law 334 = .ok (.invokevirtual 42, 3) := by decide +kernel
theorem dL_law_337 : decode cL_law 337 = .ok (.aload_n 2, 1) := by decide +kernel
theorem dL_law_338 : decode cL_law 338 = .ok (.aload_n 0, 1) := by decide +kernel
theorem dL_law_339 : decode cL_law 339 = .ok (.iload_n 3, 1) := by decide +kernel
theorem dL_law_340 : decode cL_law 340 = .ok (.iconst 1, 1) := by decide +kernel
theorem dL_law_341 : decode cL_law 341 = .ok (.iadd, 1) := by decide +kernel
theorem dL_law_342 : decode cL_law 342 = .ok (.iaload, 1) := by decide +kernel
theorem dL_law_343 : decode cL_law 343 = .ok (.aload_n 0, 1) := by decide +kernel
theorem dL_law_344 : decode cL_law 344 = .ok (.iload_n 3, 1) := by decide +kernel
theorem dL_law_345 : decode cL_law 345 = .ok (.iconst 2, 1) := by decide +kernel
theorem dL_law_346 : decode cL_law 346 = .ok (.iadd, 1) := by decide +kernel
theorem dL_law_347 : decode cL_law 347 = .ok (.iaload, 1) := by decide +kernel
theorem dL_law_348 : decode cL_law 348 = .ok (.aload_n 0, 1) := by decide +kernel
theorem dL_law_349 : decode cL_law 349 = .ok (.iload_n 3, 1) := by decide +kernel
theorem dL_law_350 : decode cL_law 350 = .ok (.iconst 3, 1) := by decide +kernel
theorem dL_law_351 : decode cL_law 351 = .ok (.iadd, 1) := by decide +kernel
theorem dL_law_352 : decode cL_law 352 = .ok (.iaload, 1) := by decide +kernel
theorem dL_law_353 : decode cL_law 353 = .ok (.invokevirtual 45, 3) := by decide +kernel
theorem dL_law_356 : decode cL_law 356 = .ok (.if_icmp .eq 348, 3) := by decide +kernel
theorem dL_law_359 : decode cL_law 359 = .ok (.iconst 0, 1) := by decide +kernel
theorem dL_law_360 : decode cL_law 360 = .ok (.ireturn, 1) := by decide +kernel
theorem dL_law_361 : decode cL_law 361 = .ok (.aload_n 1, 1) := by decide +kernel
theorem dL_law_362 : decode cL_law 362 = .ok (.aload_n 0, 1) := by decide +kernel
theorem dL_law_363 : decode cL_law 363 = .ok (.iload_n 3, 1) := by decide +kernel
theorem dL_law_364 : decode cL_law 364 = .ok (.iconst 1, 1) := by decide +kernel
theorem dL_law_365 : decode cL_law 365 = .ok (.iadd, 1) := by decide +kernel
theorem dL_law_366 : decode cL_law 366 = .ok (.iaload, 1) := by decide +kernel
theorem dL_law_367 : decode cL_law 367 = .ok (.invokevirtual 46, 3) := by decide +kernel
theorem dL_law_370 : decode cL_law 370 = .ok (.aload_n 2, 1) := by decide +kernel
theorem dL_law_371 : decode cL_law 371 = .ok (.aload_n 0, 1) := by decide +kernel
theorem dL_law_372 : decode cL_law 372 = .ok (.iload_n 3, 1) := by decide +kernel
theorem dL_law_373 : decode cL_law 373 = .ok (.iconst 1, 1) := by decide +kernel
theorem dL_law_374 : decode cL_law 374 = .ok (.iadd, 1) := by decide +kernel
theorem dL_law_375 : decode cL_law 375 = .ok (.iaload, 1) := by decide +kernel
theorem dL_law_376 : decode cL_law 376 = .ok (.invokevirtual 49, 3) := by decide +kernel
theorem dL_law_379 : decode cL_law 379 = .ok (.if_icmp .eq 325, 3) := by decide +kernel
theorem dL_law_382 : decode cL_law 382 = .ok (.iconst 0, 1) := by decide +kernel
theorem dL_law_383 : decode cL_law 383 = .ok (.ireturn, 1) := by decide +kernel
theorem dL_law_384 : decode cL_law 384 = .ok (.aload_n 1, 1) := by decide +kernel
theorem dL_law_385 : decode cL_law 385 = .ok (.aload_n 0, 1) := by decide +kernel
theorem dL_law_386 : decode cL_law 386 = .ok (.iload_n 3, 1) := by decide +kernel
theorem dL_law_387 : decode cL_law 387 = .ok (.iconst 1, 1) := by decide +kernel
theorem dL_law_388 : decode cL_law 388 = .ok (.iadd, 1) := by decide +kernel
theorem dL_law_389 : decode cL_law 389 = .ok (.iaload, 1) := by decide +kernel
theorem dL_law_390 : decode cL_law 390 = .ok (.aload_n 0, 1) := by decide +kernel
theorem dL_law_391 : decode cL_law 391 = .ok (.iload_n 3, 1) := by decide +kernel
theorem dL_law_392 : decode cL_law 392 = .ok (.iconst 2, 1) := by decide +kernel
theorem dL_law_393 : decode cL_law 393 = .ok (.iadd, 1) := by decide +kernel
theorem dL_law_394 : decode cL_law 394 = .ok (.iaload, 1) := by decide +kernel
theorem dL_law_395 : decode cL_law 395 = .ok (.invokevirtual 50, 3) := by decide +kernel
theorem dL_law_398 : decode cL_law 398 = .ok (.aload_n 2, 1) := by decide +kernel
theorem dL_law_399 : decode cL_law 399 = .ok (.aload_n 0, 1) := by decide +kernel
theorem dL_law_400 : decode cL_law 400 = .ok (.iload_n 3, 1) := by decide +kernel
theorem dL_law_401 : decode cL_law 401 = .ok (.iconst 1, 1) := by decide +kernel
theorem dL_law_402 : decode cL_law 402 = .ok (.iadd, 1) := by decide +kernel
theorem dL_law_403 : decode cL_law 403 = .ok (.iaload, 1) := by decide +kernel
theorem dL_law_404 : decode cL_law 404 = .ok (.aload_n 0, 1) := by decide +kernel
theorem dL_law_405 : decode cL_law 405 = .ok (.iload_n 3, 1) := by decide +kernel
theorem dL_law_406 : decode cL_law 406 = .ok (.iconst 2, 1) := by decide +kernel
theorem dL_law_407 : decode cL_law 407 = .ok (.iadd, 1) := by decide +kernel
theorem dL_law_408 : decode cL_law 408 = .ok (.iaload, 1) := by decide +kernel
theorem dL_law_409 : decode cL_law 409 = .ok (.invokevirtual 53, 3) := by decide +kernel
theorem dL_law_412 : decode cL_law 412 = .ok (.if_icmp .eq 292, 3) := by decide +kernel
theorem dL_law_415 : decode cL_law 415 = .ok (.iconst 0, 1) := by decide +kernel
theorem dL_law_416 : decode cL_law 416 = .ok (.ireturn, 1) := by decide +kernel
theorem dL_law_417 : decode cL_law 417 = .ok (.aload_n 1, 1) := by decide +kernel
theorem dL_law_418 : decode cL_law 418 = .ok (.aload_n 0, 1) := by decide +kernel
theorem dL_law_419 : decode cL_law 419 = .ok (.iload_n 3, 1) := by decide +kernel
theorem dL_law_420 : decode cL_law 420 = .ok (.iconst 1, 1) := by decide +kernel
theorem dL_law_421 : decode cL_law 421 = .ok (.iadd, 1) := by decide +kernel
theorem dL_law_422 : decode cL_law 422 = .ok (.iaload, 1) := by decide +kernel
theorem dL_law_423 : decode cL_law 423 = .ok (.aload_n 0, 1) := by decide +kernel
theorem dL_law_424 : decode cL_law 424 = .ok (.iload_n 3, 1) := by decide +kernel
theorem dL_law_425 : decode cL_law 425 = .ok (.iconst 2, 1) := by decide +kernel
theorem dL_law_426 : decode cL_law 426 = .ok (.iadd, 1) := by decide +kernel
theorem dL_law_427 : decode cL_law 427 = .ok (.iaload, 1) := by decide +kernel
theorem dL_law_428 : decode cL_law 428 = .ok (.invokevirtual 54, 3) := by decide +kernel
theorem dL_law_431 : decode cL_law 431 = .ok (.aload_n 2, 1) := by decide +kernel
theorem dL_law_432 : decode cL_law 432 = .ok (.aload_n 0, 1) := by decide +kernel
theorem dL_law_433 : decode cL_law 433 = .ok (.iload_n 3, 1) := by decide +kernel
theorem dL_law_434 : decode cL_law 434 = .ok (.iconst 1, 1) := by decide +kernel
theorem dL_law_435 : decode cL_law 435 = .ok (.iadd, 1) := by decide +kernel
theorem dL_law_436 : decode cL_law 436 = .ok (.iaload, 1) := by decide +kernel
theorem dL_law_437 : decode cL_law 437 = .ok (.aload_n 0, 1) := by decide +kernel
theorem dL_law_438 : decode cL_law 438 = .ok (.iload_n 3, 1) := by decide +kernel
theorem dL_law_439 : decode cL_law 439 = .ok (.iconst 2, 1) := by decide +kernel
theorem dL_law_440 : decode cL_law 440 = .ok (.iadd, 1) := by decide +kernel
theorem dL_law_441 : decode cL_law 441 = .ok (.iaload, 1) := by decide +kernel
theorem dL_law_442 : decode cL_law 442 = .ok (.invokevirtual 57, 3) := by decide +kernel
theorem dL_law_445 : decode cL_law 445 = .ok (.if_icmp .eq 259, 3) := by decide +kernel
theorem dL_law_448 : decode cL_law 448 = .ok (.iconst 0, 1) := by decide +kernel
theorem dL_law_449 : decode cL_law 449 = .ok (.ireturn, 1) := by decide +kernel
theorem dL_law_450 : decode cL_law 450 = .ok (.aload_n 1, 1) := by decide +kernel
theorem dL_law_451 : decode cL_law 451 = .ok (.aload_n 0, 1) := by decide +kernel
theorem dL_law_452 : decode cL_law 452 = .ok (.iload_n 3, 1) := by decide +kernel
theorem dL_law_453 : decode cL_law 453 = .ok (.iconst 1, 1) := by decide +kernel
theorem dL_law_454 : decode cL_law 454 = .ok (.iadd, 1) := by decide +kernel
theorem dL_law_455 : decode cL_law 455 = .ok (.iaload, 1) := by decide +kernel
theorem dL_law_456 : decode cL_law 456 = .ok (.invokevirtual 58, 3) := by decide +kernel
theorem dL_law_459 : decode cL_law 459 = .ok (.aload_n 2, 1) := by decide +kernel
theorem dL_law_460 : decode cL_law 460 = .ok (.aload_n 0, 1) := by decide +kernel
theorem dL_law_461 : decode cL_law 461 = .ok (.iload_n 3, 1) := by decide +kernel
theorem dL_law_462 : decode cL_law 462 = .ok (.iconst 1, 1) := by decide +kernel
theorem dL_law_463 : decode cL_law 463 = .ok (.iadd, 1) := by decide +kernel
theorem dL_law_464 : decode cL_law 464 = .ok (.iaload, 1) := by decide +kernel
theorem dL_law_465 : decode cL_law 465 = .ok (.invokevirtual 61, 3) := by decide +kernel
theorem dL_law_468 : decode cL_law 468 = .ok (.if_icmp .eq 236, 3) := by decide +kernel
theorem dL_law_471 : decode cL_law 471 = .ok (.iconst 0, 1) := by decide +kernel
theorem dL_law_472 : decode cL_law 472 = .ok (.ireturn, 1) := by decide +kernel
theorem dL_law_473 : decode cL_law 473 = .ok (.aload_n 1, 1) := by decide +kernel
theorem dL_law_474 : decode cL_law 474 = .ok (.aload_n 0, 1) := by decide +kernel
theorem dL_law_475 : decode cL_law 475 = .ok (.iload_n 3, 1) := by decide +kernel
theorem dL_law_476 : decode cL_law 476 = .ok (.iconst 1, 1) := by decide +kernel
theorem dL_law_477 : decode cL_law 477 = .ok (.iadd, 1) := by decide +kernel
theorem dL_law_478 : decode cL_law 478 = .ok (.iaload, 1) := by decide +kernel
theorem dL_law_479 : decode cL_law 479 = .ok (.aload_n 0, 1) := by decide +kernel
theorem dL_law_480 : decode cL_law 480 = .ok (.iload_n 3, 1) := by decide +kernel
theorem dL_law_481 : decode cL_law 481 = .ok (.iconst 2, 1) := by decide +kernel
theorem dL_law_482 : decode cL_law 482 = .ok (.iadd, 1) := by decide +kernel
theorem dL_law_483 : decode cL_law 483 = .ok (.iaload, 1) := by decide +kernel
theorem dL_law_484 : decode cL_law 484 = .ok (.invokevirtual 62, 3) := by decide +kernel
theorem dL_law_487 : decode cL_law 487 = .ok (.aload_n 2, 1) := by decide +kernel
theorem dL_law_488 : decode cL_law 488 = .ok (.aload_n 0, 1) := by decide +kernel
theorem dL_law_489 : decode cL_law 489 = .ok (.iload_n 3, 1) := by decide +kernel
theorem dL_law_490 : decode cL_law 490 = .ok (.iconst 1, 1) := by decide +kernel
theorem dL_law_491 : decode cL_law 491 = .ok (.iadd, 1) := by decide +kernel
theorem dL_law_492 : decode cL_law 492 = .ok (.iaload, 1) := by decide +kernel
theorem dL_law_493 : decode cL_law 493 = .ok (.aload_n 0, 1) := by decide +kernel
theorem dL_law_494 : decode cL_law 494 = .ok (.iload_n 3, 1) := by decide +kernel
theorem dL_law_495 : decode cL_law 495 = .ok (.iconst 2, 1) := by decide +kernel
theorem dL_law_496 : decode cL_law 496 = .ok (.iadd, 1) := by decide +kernel
theorem dL_law_497 : decode cL_law 497 = .ok (.iaload, 1) := by decide +kernel
theorem dL_law_498 : decode cL_law 498 = .ok (.invokevirtual 66, 3) := by decide +kernel
theorem dL_law_501 : decode cL_law 501 = .ok (.if_icmp .eq 203, 3) := by decide +kernel
theorem dL_law_504 : decode cL_law 504 = .ok (.iconst 0, 1) := by decide +kernel
theorem dL_law_505 : decode cL_law 505 = .ok (.ireturn, 1) := by decide +kernel
theorem dL_law_506 : decode cL_law 506 = .ok (.aload_n 1, 1) := by decide +kernel
theorem dL_law_507 : decode cL_law 507 = .ok (.aload_n 0, 1) := by decide +kernel
theorem dL_law_508 : decode cL_law 508 = .ok (.iload_n 3, 1) := by decide +kernel
theorem dL_law_509 : decode cL_law 509 = .ok (.iconst 1, 1) := by decide +kernel
theorem dL_law_510 : decode cL_law 510 = .ok (.iadd, 1) := by decide +kernel
theorem dL_law_511 : decode cL_law 511 = .ok (.iaload, 1) := by decide +kernel
theorem dL_law_512 : decode cL_law 512 = .ok (.invokevirtual 67, 3) := by decide +kernel
theorem dL_law_515 : decode cL_law 515 = .ok (.aload_n 2, 1) := by decide +kernel
theorem dL_law_516 : decode cL_law 516 = .ok (.aload_n 0, 1) := by decide +kernel
theorem dL_law_517 : decode cL_law 517 = .ok (.iload_n 3, 1) := by decide +kernel
theorem dL_law_518 : decode cL_law 518 = .ok (.iconst 1, 1) := by decide +kernel
theorem dL_law_519 : decode cL_law 519 = .ok (.iadd, 1) := by decide +kernel
theorem dL_law_520 : decode cL_law 520 = .ok (.iaload, 1) := by decide +kernel
theorem dL_law_521 : decode cL_law 521 = .ok (.invokevirtual 70, 3) := by decide +kernel
theorem dL_law_524 : decode cL_law 524 = .ok (.if_icmp .eq 180, 3) := by decide +kernel
theorem dL_law_527 : decode cL_law 527 = .ok (.iconst 0, 1) := by decide +kernel
theorem dL_law_528 : decode cL_law 528 = .ok (.ireturn, 1) := by decide +kernel
theorem dL_law_529 : decode cL_law 529 = .ok (.aload_n 1, 1) := by decide +kernel
theorem dL_law_530 : decode cL_law 530 = .ok (.aload_n 0, 1) := by decide +kernel
theorem dL_law_531 : decode cL_law 531 = .ok (.iload_n 3, 1) := by decide +kernel
theorem dL_law_532 : decode cL_law 532 = .ok (.iconst 1, 1) := by decide +kernel
theorem dL_law_533 : decode cL_law 533 = .ok (.iadd, 1) := by decide +kernel
theorem dL_law_534 : decode cL_law 534 = .ok (.iaload, 1) := by decide +kernel
theorem dL_law_535 : decode cL_law 535 = .ok (.invokevirtual 71, 3) := by decide +kernel
theorem dL_law_538 : decode cL_law 538 = .ok (.aload_n 2, 1) := by decide +kernel
theorem dL_law_539 : decode cL_law 539 = .ok (.aload_n 0, 1) := by decide +kernel
theorem dL_law_540 : decode cL_law 540 = .ok (.iload_n 3, 1) := by decide +kernel
theorem dL_law_541 : decode cL_law 541 = .ok (.iconst 1, 1) := by decide +kernel
theorem dL_law_542 : decode cL_law 542 = .ok (.iadd, 1) := by decide +kernel
theorem dL_law_543 : decode cL_law 543 = .ok (.iaload, 1) := by decide +kernel
theorem dL_law_544 : decode cL_law 544 = .ok (.invokevirtual 74, 3) := by decide +kernel
theorem dL_law_547 : decode cL_law 547 = .ok (.if_icmp .eq 157, 3) := by decide +kernel
theorem dL_law_550 : decode cL_law 550 = .ok (.iconst 0, 1) := by decide +kernel
theorem dL_law_551 : decode cL_law 551 = .ok (.ireturn, 1) := by decide +kernel
theorem dL_law_552 : decode cL_law 552 = .ok (.aload_n 1, 1) := by decide +kernel
theorem dL_law_553 : decode cL_law 553 = .ok (.aload_n 0, 1) := by decide +kernel
theorem dL_law_554 : decode cL_law 554 = .ok (.iload_n 3, 1) := by decide +kernel
theorem dL_law_555 : decode cL_law 555 = .ok (.iconst 1, 1) := by decide +kernel
theorem dL_law_556 : decode cL_law 556 = .ok (.iadd, 1) := by decide +kernel
theorem dL_law_557 : decode cL_law 557 = .ok (.iaload, 1) := by decide +kernel
theorem dL_law_558 : decode cL_law 558 = .ok (.invokevirtual 75, 3) := by decide +kernel
theorem dL_law_561 : decode cL_law 561 = .ok (.aload_n 2, 1) := by decide +kernel
theorem dL_law_562 : decode cL_law 562 = .ok (.aload_n 0, 1) := by decide +kernel
theorem dL_law_563 : decode cL_law 563 = .ok (.iload_n 3, 1) := by decide +kernel
theorem dL_law_564 : decode cL_law 564 = .ok (.iconst 1, 1) := by decide +kernel
theorem dL_law_565 : decode cL_law 565 = .ok (.iadd, 1) := by decide +kernel
theorem dL_law_566 : decode cL_law 566 = .ok (.iaload, 1) := by decide +kernel
theorem dL_law_567 : decode cL_law 567 = .ok (.invokevirtual 78, 3) := by decide +kernel
theorem dL_law_570 : decode cL_law 570 = .ok (.if_icmp .eq 134, 3) := by decide +kernel
theorem dL_law_573 : decode cL_law 573 = .ok (.iconst 0, 1) := by decide +kernel
theorem dL_law_574 : decode cL_law 574 = .ok (.ireturn, 1) := by decide +kernel
theorem dL_law_575 : decode cL_law 575 = .ok (.aload_n 1, 1) := by decide +kernel
theorem dL_law_576 : decode cL_law 576 = .ok (.aload_n 0, 1) := by decide +kernel
theorem dL_law_577 : decode cL_law 577 = .ok (.iload_n 3, 1) := by decide +kernel
theorem dL_law_578 : decode cL_law 578 = .ok (.iconst 1, 1) := by decide +kernel
theorem dL_law_579 : decode cL_law 579 = .ok (.iadd, 1) := by decide +kernel
theorem dL_law_580 : decode cL_law 580 = .ok (.iaload, 1) := by decide +kernel
theorem dL_law_581 : decode cL_law 581 = .ok (.aload_n 0, 1) := by decide +kernel
theorem dL_law_582 : decode cL_law 582 = .ok (.iload_n 3, 1) := by decide +kernel
theorem dL_law_583 : decode cL_law 583 = .ok (.iconst 2, 1) := by decide +kernel
theorem dL_law_584 : decode cL_law 584 = .ok (.iadd, 1) := by decide +kernel
theorem dL_law_585 : decode cL_law 585 = .ok (.iaload, 1) := by decide +kernel
theorem dL_law_586 : decode cL_law 586 = .ok (.aload_n 0, 1) := by decide +kernel
theorem dL_law_587 : decode cL_law 587 = .ok (.iload_n 3, 1) := by decide +kernel
theorem dL_law_588 : decode cL_law 588 = .ok (.iconst 3, 1) := by decide +kernel
theorem dL_law_589 : decode cL_law 589 = .ok (.iadd, 1) := by decide +kernel
theorem dL_law_590 : decode cL_law 590 = .ok (.iaload, 1) := by decide +kernel
theorem dL_law_591 : decode cL_law 591 = .ok (.aload_n 0, 1) := by decide +kernel
theorem dL_law_592 : decode cL_law 592 = .ok (.iload_n 3, 1) := by decide +kernel
theorem dL_law_593 : decode cL_law 593 = .ok (.iconst 4, 1) := by decide +kernel
theorem dL_law_594 : decode cL_law 594 = .ok (.iadd, 1) := by decide +kernel
theorem dL_law_595 : decode cL_law 595 = .ok (.iaload, 1) := by decide +kernel
theorem dL_law_596 : decode cL_law 596 = .ok (.invokevirtual 79, 3) := by decide +kernel
theorem dL_law_599 : decode cL_law 599 = .ok (.aload_n 2, 1) := by decide +kernel
theorem dL_law_600 : decode cL_law 600 = .ok (.aload_n 0, 1) := by decide +kernel
theorem dL_law_601 : decode cL_law 601 = .ok (.iload_n 3, 1) := by decide +kernel
theorem dL_law_602 : decode cL_law 602 = .ok (.iconst 1, 1) := by decide +kernel
theorem dL_law_603 : decode cL_law 603 = .ok (.iadd, 1) := by decide +kernel
theorem dL_law_604 : decode cL_law 604 = .ok (.iaload, 1) := by decide +kernel
theorem dL_law_605 : decode cL_law 605 = .ok (.aload_n 0, 1) := by decide +kernel
theorem dL_law_606 : decode cL_law 606 = .ok (.iload_n 3, 1) := by decide +kernel
theorem dL_law_607 : decode cL_law 607 = .ok (.iconst 2, 1) := by decide +kernel
theorem dL_law_608 : decode cL_law 608 = .ok (.iadd, 1) := by decide +kernel
theorem dL_law_609 : decode cL_law 609 = .ok (.iaload, 1) := by decide +kernel
theorem dL_law_610 : decode cL_law 610 = .ok (.aload_n 0, 1) := by decide +kernel
theorem dL_law_611 : decode cL_law 611 = .ok (.iload_n 3, 1) := by decide +kernel
theorem dL_law_612 : decode cL_law 612 = .ok (.iconst 3, 1) := by decide +kernel
theorem dL_law_613 : decode cL_law 613 = .ok (.iadd, 1) := by decide +kernel
theorem dL_law_614 : decode cL_law 614 = .ok (.iaload, 1) := by decide +kernel
theorem dL_law_615 : decode cL_law 615 = .ok (.aload_n 0, 1) := by decide +kernel
theorem dL_law_616 : decode cL_law 616 = .ok (.iload_n 3, 1) := by decide +kernel
theorem dL_law_617 : decode cL_law 617 = .ok (.iconst 4, 1) := by decide +kernel
theorem dL_law_618 : decode cL_law 618 = .ok (.iadd, 1) := by decide +kernel
theorem dL_law_619 : decode cL_law 619 = .ok (.iaload, 1) := by decide +kernel
theorem dL_law_620 : decode cL_law 620 = .ok (.invokevirtual 83, 3) := by decide +kernel
theorem dL_law_623 : decode cL_law 623 = .ok (.if_icmp .eq 81, 3) := by decide +kernel
theorem dL_law_626 : decode cL_law 626 = .ok (.iconst 0, 1) := by decide +kernel
theorem dL_law_627 : decode cL_law 627 = .ok (.ireturn, 1) := by decide +kernel
theorem dL_law_628 : decode cL_law 628 = .ok (.aload_n 1, 1) := by decide +kernel
theorem dL_law_629 : decode cL_law 629 = .ok (.aload_n 0, 1) := by decide +kernel
theorem dL_law_630 : decode cL_law 630 = .ok (.iload_n 3, 1) := by decide +kernel
theorem dL_law_631 : decode cL_law 631 = .ok (.iconst 1, 1) := by decide +kernel
theorem dL_law_632 : decode cL_law 632 = .ok (.iadd, 1) := by decide +kernel
theorem dL_law_633 : decode cL_law 633 = .ok (.iaload, 1) := by decide +kernel
theorem dL_law_634 : decode cL_law 634 = .ok (.aload_n 0, 1) := by decide +kernel
theorem dL_law_635 : decode cL_law 635 = .ok (.iload_n 3, 1) := by decide +kernel
theorem dL_law_636 : decode cL_law 636 = .ok (.iconst 2, 1) := by decide +kernel
theorem dL_law_637 : decode cL_law 637 = .ok (.iadd, 1) := by decide +kernel
theorem dL_law_638 : decode cL_law 638 = .ok (.iaload, 1) := by decide +kernel
theorem dL_law_639 : decode cL_law 639 = .ok (.aload_n 0, 1) := by decide +kernel
theorem dL_law_640 : decode cL_law 640 = .ok (.iload_n 3, 1) := by decide +kernel
theorem dL_law_641 : decode cL_law 641 = .ok (.iconst 3, 1) := by decide +kernel
theorem dL_law_642 : decode cL_law 642 = .ok (.iadd, 1) := by decide +kernel
theorem dL_law_643 : decode cL_law 643 = .ok (.iaload, 1) := by decide +kernel
theorem dL_law_644 : decode cL_law 644 = .ok (.aload_n 0, 1) := by decide +kernel
theorem dL_law_645 : decode cL_law 645 = .ok (.iload_n 3, 1) := by decide +kernel
theorem dL_law_646 : decode cL_law 646 = .ok (.iconst 4, 1) := by decide +kernel
theorem dL_law_647 : decode cL_law 647 = .ok (.iadd, 1) := by decide +kernel
theorem dL_law_648 : decode cL_law 648 = .ok (.iaload, 1) := by decide +kernel
theorem dL_law_649 : decode cL_law 649 = .ok (.invokevirtual 84, 3) := by decide +kernel
theorem dL_law_652 : decode cL_law 652 = .ok (.aload_n 2, 1) := by decide +kernel
theorem dL_law_653 : decode cL_law 653 = .ok (.aload_n 0, 1) := by decide +kernel
theorem dL_law_654 : decode cL_law 654 = .ok (.iload_n 3, 1) := by decide +kernel
theorem dL_law_655 : decode cL_law 655 = .ok (.iconst 1, 1) := by decide +kernel
theorem dL_law_656 : decode cL_law 656 = .ok (.iadd, 1) := by decide +kernel
theorem dL_law_657 : decode cL_law 657 = .ok (.iaload, 1) := by decide +kernel
theorem dL_law_658 : decode cL_law 658 = .ok (.aload_n 0, 1) := by decide +kernel
theorem dL_law_659 : decode cL_law 659 = .ok (.iload_n 3, 1) := by decide +kernel
theorem dL_law_660 : decode cL_law 660 = .ok (.iconst 2, 1) := by decide +kernel
theorem dL_law_661 : decode cL_law 661 = .ok (.iadd, 1) := by decide +kernel
theorem dL_law_662 : decode cL_law 662 = .ok (.iaload, 1) := by decide +kernel
theorem dL_law_663 : decode cL_law 663 = .ok (.aload_n 0, 1) := by decide +kernel
theorem dL_law_664 : decode cL_law 664 = .ok (.iload_n 3, 1) := by decide +kernel
theorem dL_law_665 : decode cL_law 665 = .ok (.iconst 3, 1) := by decide +kernel
theorem dL_law_666 : decode cL_law 666 = .ok (.iadd, 1) := by decide +kernel
theorem dL_law_667 : decode cL_law 667 = .ok (.iaload, 1) := by decide +kernel
theorem dL_law_668 : decode cL_law 668 = .ok (.aload_n 0, 1) := by decide +kernel
theorem dL_law_669 : decode cL_law 669 = .ok (.iload_n 3, 1) := by decide +kernel
theorem dL_law_670 : decode cL_law 670 = .ok (.iconst 4, 1) := by decide +kernel
theorem dL_law_671 : decode cL_law 671 = .ok (.iadd, 1) := by decide +kernel
theorem dL_law_672 : decode cL_law 672 = .ok (.iaload, 1) := by decide +kernel
theorem dL_law_673 : decode cL_law 673 = .ok (.invokevirtual 87, 3) := by decide +kernel
theorem dL_law_676 : decode cL_law 676 = .ok (.if_icmp .eq 28, 3) := by decide +kernel
theorem dL_law_679 : decode cL_law 679 = .ok (.iconst 0, 1) := by decide +kernel
theorem dL_law_680 : decode cL_law 680 = .ok (.ireturn, 1) := by decide +kernel
theorem dL_law_681 : decode cL_law 681 = .ok (.aload_n 1, 1) := by decide +kernel
theorem dL_law_682 : decode cL_law 682 = .ok (.aload_n 0, 1) := by decide +kernel
theorem dL_law_683 : decode cL_law 683 = .ok (.iload_n 3, 1) := by decide +kernel
theorem dL_law_684 : decode cL_law 684 = .ok (.iconst 1, 1) := by decide +kernel
theorem dL_law_685 : decode cL_law 685 = .ok (.iadd, 1) := by decide +kernel
theorem dL_law_686 : decode cL_law 686 = .ok (.iaload, 1) := by decide +kernel
theorem dL_law_687 : decode cL_law 687 = .ok (.invokevirtual 88, 3) := by decide +kernel
theorem dL_law_690 : decode cL_law 690 = .ok (.aload_n 2, 1) := by decide +kernel
theorem dL_law_691 : decode cL_law 691 = .ok (.aload_n 0, 1) := by decide +kernel
theorem dL_law_692 : decode cL_law 692 = .ok (.iload_n 3, 1) := by decide +kernel
theorem dL_law_693 : decode cL_law 693 = .ok (.iconst 1, 1) := by decide +kernel
theorem dL_law_694 : decode cL_law 694 = .ok (.iadd, 1) := by decide +kernel
theorem dL_law_695 : decode cL_law 695 = .ok (.iaload, 1) := by decide +kernel
theorem dL_law_696 : decode cL_law 696 = .ok (.invokevirtual 91, 3) := by decide +kernel
theorem dL_law_699 : decode cL_law 699 = .ok (.if_icmp .eq 5, 3) := by decide +kernel
theorem dL_law_702 : decode cL_law 702 = .ok (.iconst 0, 1) := by decide +kernel
theorem dL_law_703 : decode cL_law 703 = .ok (.ireturn, 1) := by decide +kernel
theorem dL_law_704 : decode cL_law 704 = .ok (.iinc 3 5, 3) := by decide +kernel
theorem dL_law_707 : decode cL_law 707 = .ok (.goto (-689), 3) := by decide +kernel
theorem dL_law_710 : decode cL_law 710 = .ok (.iconst 1, 1) := by decide +kernel
theorem dL_law_711 : decode cL_law 711 = .ok (.ireturn, 1) := by decide +kernel

