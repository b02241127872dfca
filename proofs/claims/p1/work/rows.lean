section
-- ===== PART A: goes FIRST, ahead of the names: the tables' words, and 'selects' of the private methods out of them =====
/-- a private method of a class that the tables say can be made, by its rows of tables_1 -/
def lw_okq (q : MethodName × Nat) : Prop := (q.1.cls ≠ "java/lang/invoke/MethodHandle" ∧ q.1.cls ≠ "java/lang/invoke/VarHandle") ∧ Cond.instantiable q.1.cls q.2 ∈ tables_1 ∧ Cond.privateMethod q.1 ∈ tables_1 ∧ Cond.instanceMethod q.1 ∈ tables_1
theorem lw_p0 : lw_okq (⟨"OthersHands$Reader", "takes", "(I)Z"⟩, 3) := ⟨⟨by decide +kernel, by decide +kernel⟩, List.mem_of_getElem? (i := 41) (by decide +kernel), List.mem_of_getElem? (i := 269) (by decide +kernel), List.mem_of_getElem? (i := 270) (by decide +kernel)⟩
theorem lw_p1 : lw_okq (⟨"OthersHands$Reader", "takesTool", "(II)Z"⟩, 3) := ⟨⟨by decide +kernel, by decide +kernel⟩, List.mem_of_getElem? (i := 41) (by decide +kernel), List.mem_of_getElem? (i := 273) (by decide +kernel), List.mem_of_getElem? (i := 274) (by decide +kernel)⟩
theorem lw_p2 : lw_okq (⟨"OthersHands$Reader", "takesFrom", "(II)Z"⟩, 3) := ⟨⟨by decide +kernel, by decide +kernel⟩, List.mem_of_getElem? (i := 41) (by decide +kernel), List.mem_of_getElem? (i := 277) (by decide +kernel), List.mem_of_getElem? (i := 278) (by decide +kernel)⟩
theorem lw_p3 : lw_okq (⟨"OthersHands$Reader", "takesMan", "(II)Z"⟩, 3) := ⟨⟨by decide +kernel, by decide +kernel⟩, List.mem_of_getElem? (i := 41) (by decide +kernel), List.mem_of_getElem? (i := 281) (by decide +kernel), List.mem_of_getElem? (i := 282) (by decide +kernel)⟩
theorem lw_p4 : lw_okq (⟨"OthersHands$Reader", "hasRoomForHand", "(I)Z"⟩, 3) := ⟨⟨by decide +kernel, by decide +kernel⟩, List.mem_of_getElem? (i := 41) (by decide +kernel), List.mem_of_getElem? (i := 285) (by decide +kernel), List.mem_of_getElem? (i := 286) (by decide +kernel)⟩
theorem lw_p5 : lw_okq (⟨"OthersHands$Reader", "takesPlus", "(I)Z"⟩, 3) := ⟨⟨by decide +kernel, by decide +kernel⟩, List.mem_of_getElem? (i := 41) (by decide +kernel), List.mem_of_getElem? (i := 295) (by decide +kernel), List.mem_of_getElem? (i := 296) (by decide +kernel)⟩
theorem lw_p6 : lw_okq (⟨"OthersHands$Reader", "takesAsk", "(I)Z"⟩, 3) := ⟨⟨by decide +kernel, by decide +kernel⟩, List.mem_of_getElem? (i := 41) (by decide +kernel), List.mem_of_getElem? (i := 299) (by decide +kernel), List.mem_of_getElem? (i := 300) (by decide +kernel)⟩
theorem lw_p7 : lw_okq (⟨"OthersHands$Reader", "takesEnd", "(I)Z"⟩, 3) := ⟨⟨by decide +kernel, by decide +kernel⟩, List.mem_of_getElem? (i := 41) (by decide +kernel), List.mem_of_getElem? (i := 303) (by decide +kernel), List.mem_of_getElem? (i := 304) (by decide +kernel)⟩
theorem lw_p8 : lw_okq (⟨"OthersHands", "isThing", "(I)Z"⟩, 8) := ⟨⟨by decide +kernel, by decide +kernel⟩, List.mem_of_getElem? (i := 16) (by decide +kernel), List.mem_of_getElem? (i := 326) (by decide +kernel), List.mem_of_getElem? (i := 327) (by decide +kernel)⟩
theorem lw_p9 : lw_okq (⟨"OthersHands$Filling", "findAsks", "(LOthersHands$Pages;)V"⟩, 4) := ⟨⟨by decide +kernel, by decide +kernel⟩, List.mem_of_getElem? (i := 162) (by decide +kernel), List.mem_of_getElem? (i := 467) (by decide +kernel), List.mem_of_getElem? (i := 468) (by decide +kernel)⟩
theorem lw_p10 : lw_okq (⟨"OthersHands$Filling", "applySight", "(IILOthersHands$Pages;)V"⟩, 4) := ⟨⟨by decide +kernel, by decide +kernel⟩, List.mem_of_getElem? (i := 162) (by decide +kernel), List.mem_of_getElem? (i := 473) (by decide +kernel), List.mem_of_getElem? (i := 474) (by decide +kernel)⟩
theorem lw_p11 : lw_okq (⟨"OthersHands$Filling", "isForced", "(II)Z"⟩, 4) := ⟨⟨by decide +kernel, by decide +kernel⟩, List.mem_of_getElem? (i := 162) (by decide +kernel), List.mem_of_getElem? (i := 501) (by decide +kernel), List.mem_of_getElem? (i := 502) (by decide +kernel)⟩
theorem lw_p12 : lw_okq (⟨"OthersHands$Bread", "mostFed", "(I)I"⟩, 3) := ⟨⟨by decide +kernel, by decide +kernel⟩, List.mem_of_getElem? (i := 181) (by decide +kernel), List.mem_of_getElem? (i := 524) (by decide +kernel), List.mem_of_getElem? (i := 525) (by decide +kernel)⟩
theorem lw_p13 : lw_okq (⟨"OthersHands$Bread", "loavesFor", "(I)I"⟩, 3) := ⟨⟨by decide +kernel, by decide +kernel⟩, List.mem_of_getElem? (i := 181) (by decide +kernel), List.mem_of_getElem? (i := 529) (by decide +kernel), List.mem_of_getElem? (i := 530) (by decide +kernel)⟩
theorem lw_p14 : lw_okq (⟨"OthersHands$Bread", "takeLeastMeal", "(II)I"⟩, 3) := ⟨⟨by decide +kernel, by decide +kernel⟩, List.mem_of_getElem? (i := 181) (by decide +kernel), List.mem_of_getElem? (i := 537) (by decide +kernel), List.mem_of_getElem? (i := 538) (by decide +kernel)⟩
theorem lw_p15 : lw_okq (⟨"OthersHands$Matchmaker", "sumUp", "(I)V"⟩, 3) := ⟨⟨by decide +kernel, by decide +kernel⟩, List.mem_of_getElem? (i := 199) (by decide +kernel), List.mem_of_getElem? (i := 581) (by decide +kernel), List.mem_of_getElem? (i := 582) (by decide +kernel)⟩
def lw_privs_1 : List (MethodName × Nat) := [(⟨"OthersHands$Reader", "takes", "(I)Z"⟩, 3), (⟨"OthersHands$Reader", "takesTool", "(II)Z"⟩, 3), (⟨"OthersHands$Reader", "takesFrom", "(II)Z"⟩, 3), (⟨"OthersHands$Reader", "takesMan", "(II)Z"⟩, 3), (⟨"OthersHands$Reader", "hasRoomForHand", "(I)Z"⟩, 3), (⟨"OthersHands$Reader", "takesPlus", "(I)Z"⟩, 3), (⟨"OthersHands$Reader", "takesAsk", "(I)Z"⟩, 3), (⟨"OthersHands$Reader", "takesEnd", "(I)Z"⟩, 3), (⟨"OthersHands", "isThing", "(I)Z"⟩, 8), (⟨"OthersHands$Filling", "findAsks", "(LOthersHands$Pages;)V"⟩, 4), (⟨"OthersHands$Filling", "applySight", "(IILOthersHands$Pages;)V"⟩, 4), (⟨"OthersHands$Filling", "isForced", "(II)Z"⟩, 4), (⟨"OthersHands$Bread", "mostFed", "(I)I"⟩, 3), (⟨"OthersHands$Bread", "loavesFor", "(I)I"⟩, 3), (⟨"OthersHands$Bread", "takeLeastMeal", "(II)I"⟩, 3), (⟨"OthersHands$Matchmaker", "sumUp", "(I)V"⟩, 3)]
theorem lw_r1 : ∀ q ∈ lw_privs_1, lw_okq q := List.forall_mem_cons.mpr ⟨lw_p0, List.forall_mem_cons.mpr ⟨lw_p1, List.forall_mem_cons.mpr ⟨lw_p2, List.forall_mem_cons.mpr ⟨lw_p3, List.forall_mem_cons.mpr ⟨lw_p4, List.forall_mem_cons.mpr ⟨lw_p5, List.forall_mem_cons.mpr ⟨lw_p6, List.forall_mem_cons.mpr ⟨lw_p7, List.forall_mem_cons.mpr ⟨lw_p8, List.forall_mem_cons.mpr ⟨lw_p9, List.forall_mem_cons.mpr ⟨lw_p10, List.forall_mem_cons.mpr ⟨lw_p11, List.forall_mem_cons.mpr ⟨lw_p12, List.forall_mem_cons.mpr ⟨lw_p13, List.forall_mem_cons.mpr ⟨lw_p14, List.forall_mem_cons.mpr ⟨lw_p15, fun _ h => absurd h List.not_mem_nil⟩⟩⟩⟩⟩⟩⟩⟩⟩⟩⟩⟩⟩⟩⟩⟩
theorem lw_p16 : lw_okq (⟨"OthersHands$Matchmaker", "leastSum", "(I)I"⟩, 3) := ⟨⟨by decide +kernel, by decide +kernel⟩, List.mem_of_getElem? (i := 199) (by decide +kernel), List.mem_of_getElem? (i := 586) (by decide +kernel), List.mem_of_getElem? (i := 587) (by decide +kernel)⟩
theorem lw_p17 : lw_okq (⟨"OthersHands$Matchmaker", "bestOther", "(II)I"⟩, 3) := ⟨⟨by decide +kernel, by decide +kernel⟩, List.mem_of_getElem? (i := 199) (by decide +kernel), List.mem_of_getElem? (i := 592) (by decide +kernel), List.mem_of_getElem? (i := 593) (by decide +kernel)⟩
theorem lw_p18 : lw_okq (⟨"OthersHands$Matchmaker", "sumWith", "(III)I"⟩, 3) := ⟨⟨by decide +kernel, by decide +kernel⟩, List.mem_of_getElem? (i := 199) (by decide +kernel), List.mem_of_getElem? (i := 597) (by decide +kernel), List.mem_of_getElem? (i := 598) (by decide +kernel)⟩
theorem lw_p19 : lw_okq (⟨"OthersHands$Matchmaker", "choose", "(I)V"⟩, 3) := ⟨⟨by decide +kernel, by decide +kernel⟩, List.mem_of_getElem? (i := 199) (by decide +kernel), List.mem_of_getElem? (i := 601) (by decide +kernel), List.mem_of_getElem? (i := 602) (by decide +kernel)⟩
theorem lw_p20 : lw_okq (⟨"OthersHands$Bread", "eats", "(I)Z"⟩, 3) := ⟨⟨by decide +kernel, by decide +kernel⟩, List.mem_of_getElem? (i := 181) (by decide +kernel), List.mem_of_getElem? (i := 614) (by decide +kernel), List.mem_of_getElem? (i := 615) (by decide +kernel)⟩
theorem lw_p21 : lw_okq (⟨"OthersHandsModel", "faultOf", "()I"⟩, 22) := ⟨⟨by decide +kernel, by decide +kernel⟩, List.mem_of_getElem? (i := 635) (by decide +kernel), List.mem_of_getElem? (i := 724) (by decide +kernel), List.mem_of_getElem? (i := 725) (by decide +kernel)⟩
theorem lw_p22 : lw_okq (⟨"OthersHandsModel", "isThing", "(I)Z"⟩, 22) := ⟨⟨by decide +kernel, by decide +kernel⟩, List.mem_of_getElem? (i := 635) (by decide +kernel), List.mem_of_getElem? (i := 736) (by decide +kernel), List.mem_of_getElem? (i := 737) (by decide +kernel)⟩
theorem lw_p23 : lw_okq (⟨"OthersHandsModel", "asTold", "()V"⟩, 22) := ⟨⟨by decide +kernel, by decide +kernel⟩, List.mem_of_getElem? (i := 635) (by decide +kernel), List.mem_of_getElem? (i := 763) (by decide +kernel), List.mem_of_getElem? (i := 764) (by decide +kernel)⟩
theorem lw_p24 : lw_okq (⟨"OthersHandsModel", "touchers", "(I)I"⟩, 22) := ⟨⟨by decide +kernel, by decide +kernel⟩, List.mem_of_getElem? (i := 635) (by decide +kernel), List.mem_of_getElem? (i := 767) (by decide +kernel), List.mem_of_getElem? (i := 768) (by decide +kernel)⟩
theorem lw_p25 : lw_okq (⟨"OthersHandsModel", "walk", "(I)V"⟩, 22) := ⟨⟨by decide +kernel, by decide +kernel⟩, List.mem_of_getElem? (i := 635) (by decide +kernel), List.mem_of_getElem? (i := 771) (by decide +kernel), List.mem_of_getElem? (i := 772) (by decide +kernel)⟩
theorem lw_p26 : lw_okq (⟨"OthersHandsModel", "barredFrom", "(I)I"⟩, 22) := ⟨⟨by decide +kernel, by decide +kernel⟩, List.mem_of_getElem? (i := 635) (by decide +kernel), List.mem_of_getElem? (i := 776) (by decide +kernel), List.mem_of_getElem? (i := 777) (by decide +kernel)⟩
theorem lw_p27 : lw_okq (⟨"OthersHandsModel", "withPartners", "(I)I"⟩, 22) := ⟨⟨by decide +kernel, by decide +kernel⟩, List.mem_of_getElem? (i := 635) (by decide +kernel), List.mem_of_getElem? (i := 780) (by decide +kernel), List.mem_of_getElem? (i := 781) (by decide +kernel)⟩
theorem lw_p28 : lw_okq (⟨"OthersHandsModel", "byTenths", "(I)I"⟩, 22) := ⟨⟨by decide +kernel, by decide +kernel⟩, List.mem_of_getElem? (i := 635) (by decide +kernel), List.mem_of_getElem? (i := 787) (by decide +kernel), List.mem_of_getElem? (i := 788) (by decide +kernel)⟩
theorem lw_p29 : lw_okq (⟨"OthersHandsModel", "shareOf", "(II)I"⟩, 22) := ⟨⟨by decide +kernel, by decide +kernel⟩, List.mem_of_getElem? (i := 635) (by decide +kernel), List.mem_of_getElem? (i := 791) (by decide +kernel), List.mem_of_getElem? (i := 792) (by decide +kernel)⟩
theorem lw_p30 : lw_okq (⟨"OthersHandsModel", "mayHave", "(I)I"⟩, 22) := ⟨⟨by decide +kernel, by decide +kernel⟩, List.mem_of_getElem? (i := 635) (by decide +kernel), List.mem_of_getElem? (i := 802) (by decide +kernel), List.mem_of_getElem? (i := 803) (by decide +kernel)⟩
theorem lw_p31 : lw_okq (⟨"OthersHandsModel", "nearTo", "(II)I"⟩, 22) := ⟨⟨by decide +kernel, by decide +kernel⟩, List.mem_of_getElem? (i := 635) (by decide +kernel), List.mem_of_getElem? (i := 810) (by decide +kernel), List.mem_of_getElem? (i := 811) (by decide +kernel)⟩
def lw_privs_2 : List (MethodName × Nat) := [(⟨"OthersHands$Matchmaker", "leastSum", "(I)I"⟩, 3), (⟨"OthersHands$Matchmaker", "bestOther", "(II)I"⟩, 3), (⟨"OthersHands$Matchmaker", "sumWith", "(III)I"⟩, 3), (⟨"OthersHands$Matchmaker", "choose", "(I)V"⟩, 3), (⟨"OthersHands$Bread", "eats", "(I)Z"⟩, 3), (⟨"OthersHandsModel", "faultOf", "()I"⟩, 22), (⟨"OthersHandsModel", "isThing", "(I)Z"⟩, 22), (⟨"OthersHandsModel", "asTold", "()V"⟩, 22), (⟨"OthersHandsModel", "touchers", "(I)I"⟩, 22), (⟨"OthersHandsModel", "walk", "(I)V"⟩, 22), (⟨"OthersHandsModel", "barredFrom", "(I)I"⟩, 22), (⟨"OthersHandsModel", "withPartners", "(I)I"⟩, 22), (⟨"OthersHandsModel", "byTenths", "(I)I"⟩, 22), (⟨"OthersHandsModel", "shareOf", "(II)I"⟩, 22), (⟨"OthersHandsModel", "mayHave", "(I)I"⟩, 22), (⟨"OthersHandsModel", "nearTo", "(II)I"⟩, 22)]
theorem lw_r2 : ∀ q ∈ lw_privs_2, lw_okq q := List.forall_mem_cons.mpr ⟨lw_p16, List.forall_mem_cons.mpr ⟨lw_p17, List.forall_mem_cons.mpr ⟨lw_p18, List.forall_mem_cons.mpr ⟨lw_p19, List.forall_mem_cons.mpr ⟨lw_p20, List.forall_mem_cons.mpr ⟨lw_p21, List.forall_mem_cons.mpr ⟨lw_p22, List.forall_mem_cons.mpr ⟨lw_p23, List.forall_mem_cons.mpr ⟨lw_p24, List.forall_mem_cons.mpr ⟨lw_p25, List.forall_mem_cons.mpr ⟨lw_p26, List.forall_mem_cons.mpr ⟨lw_p27, List.forall_mem_cons.mpr ⟨lw_p28, List.forall_mem_cons.mpr ⟨lw_p29, List.forall_mem_cons.mpr ⟨lw_p30, List.forall_mem_cons.mpr ⟨lw_p31, fun _ h => absurd h List.not_mem_nil⟩⟩⟩⟩⟩⟩⟩⟩⟩⟩⟩⟩⟩⟩⟩⟩
theorem lw_p32 : lw_okq (⟨"OthersHandsModel", "codes", "()I"⟩, 22) := ⟨⟨by decide +kernel, by decide +kernel⟩, List.mem_of_getElem? (i := 635) (by decide +kernel), List.mem_of_getElem? (i := 832) (by decide +kernel), List.mem_of_getElem? (i := 833) (by decide +kernel)⟩
theorem lw_p33 : lw_okq (⟨"OthersHandsModel", "opens", "()I"⟩, 22) := ⟨⟨by decide +kernel, by decide +kernel⟩, List.mem_of_getElem? (i := 635) (by decide +kernel), List.mem_of_getElem? (i := 836) (by decide +kernel), List.mem_of_getElem? (i := 837) (by decide +kernel)⟩
theorem lw_p34 : lw_okq (⟨"OthersHandsModel", "fill", "(I)Z"⟩, 22) := ⟨⟨by decide +kernel, by decide +kernel⟩, List.mem_of_getElem? (i := 635) (by decide +kernel), List.mem_of_getElem? (i := 840) (by decide +kernel), List.mem_of_getElem? (i := 841) (by decide +kernel)⟩
theorem lw_p35 : lw_okq (⟨"OthersHandsModel", "manAt", "(II)I"⟩, 22) := ⟨⟨by decide +kernel, by decide +kernel⟩, List.mem_of_getElem? (i := 635) (by decide +kernel), List.mem_of_getElem? (i := 844) (by decide +kernel), List.mem_of_getElem? (i := 845) (by decide +kernel)⟩
theorem lw_p36 : lw_okq (⟨"OthersHandsModel", "layMays", "()V"⟩, 22) := ⟨⟨by decide +kernel, by decide +kernel⟩, List.mem_of_getElem? (i := 635) (by decide +kernel), List.mem_of_getElem? (i := 856) (by decide +kernel), List.mem_of_getElem? (i := 857) (by decide +kernel)⟩
theorem lw_p37 : lw_okq (⟨"OthersHandsModel", "feeds", "(II)Z"⟩, 22) := ⟨⟨by decide +kernel, by decide +kernel⟩, List.mem_of_getElem? (i := 635) (by decide +kernel), List.mem_of_getElem? (i := 868) (by decide +kernel), List.mem_of_getElem? (i := 869) (by decide +kernel)⟩
theorem lw_p38 : lw_okq (⟨"OthersHandsModel", "allBarred", "()I"⟩, 22) := ⟨⟨by decide +kernel, by decide +kernel⟩, List.mem_of_getElem? (i := 635) (by decide +kernel), List.mem_of_getElem? (i := 880) (by decide +kernel), List.mem_of_getElem? (i := 881) (by decide +kernel)⟩
theorem lw_p39 : lw_okq (⟨"OthersHandsModel", "layPlan", "(I)Z"⟩, 22) := ⟨⟨by decide +kernel, by decide +kernel⟩, List.mem_of_getElem? (i := 635) (by decide +kernel), List.mem_of_getElem? (i := 885) (by decide +kernel), List.mem_of_getElem? (i := 886) (by decide +kernel)⟩
def lw_privs_3 : List (MethodName × Nat) := [(⟨"OthersHandsModel", "codes", "()I"⟩, 22), (⟨"OthersHandsModel", "opens", "()I"⟩, 22), (⟨"OthersHandsModel", "fill", "(I)Z"⟩, 22), (⟨"OthersHandsModel", "manAt", "(II)I"⟩, 22), (⟨"OthersHandsModel", "layMays", "()V"⟩, 22), (⟨"OthersHandsModel", "feeds", "(II)Z"⟩, 22), (⟨"OthersHandsModel", "allBarred", "()I"⟩, 22), (⟨"OthersHandsModel", "layPlan", "(I)Z"⟩, 22)]
theorem lw_r3 : ∀ q ∈ lw_privs_3, lw_okq q := List.forall_mem_cons.mpr ⟨lw_p32, List.forall_mem_cons.mpr ⟨lw_p33, List.forall_mem_cons.mpr ⟨lw_p34, List.forall_mem_cons.mpr ⟨lw_p35, List.forall_mem_cons.mpr ⟨lw_p36, List.forall_mem_cons.mpr ⟨lw_p37, List.forall_mem_cons.mpr ⟨lw_p38, List.forall_mem_cons.mpr ⟨lw_p39, fun _ h => absurd h List.not_mem_nil⟩⟩⟩⟩⟩⟩⟩⟩
def lw_privs : List (MethodName × Nat) := lw_privs_1 ++ (lw_privs_2 ++ (lw_privs_3))
def lw_tbl : List Cond := k2_sels lw_privs ++ tables_1
theorem lw_privs_ok : ∀ q ∈ lw_privs, lw_okq q := by
  show ∀ q ∈ lw_privs_1 ++ (lw_privs_2 ++ (lw_privs_3)), lw_okq q
  exact List.forall_mem_append.mpr ⟨lw_r1, List.forall_mem_append.mpr ⟨lw_r2, lw_r3⟩⟩
end
section
/-- the words that keep, and those of the nest -/
def zgt : List Cond := lw_tbl.filter goodWord
def zisN (w : Cond) : Bool := match w with
  | .methodLinkNest _ _ _ _ => true
  | _ => false
def zns : List Cond := lw_tbl.filter zisN
def zT_Bread : u_T := fun k => match k with
  | 0 => ("OthersHands$Bread", "lawful", "[I", true)
  | 1 => ("OthersHands$Bread", "left", "[I", true)
  | _ => ("OthersHands$Bread", "meal", "[I", true)
def zt_Bread : Nat → FieldType := fun k => match k with
  | 0 => .array .int
  | 1 => .array .int
  | _ => .array .int
theorem zn_Bread : ∀ a, a < 3 → ∀ b, b < 3 → a ≠ b → (zT_Bread a).2.1 ≠ (zT_Bread b).2.1 := by decide +kernel
theorem zo_Bread : ∀ k, k < 3 → parseFieldDescriptor (zT_Bread k).2.2.1 = some (zt_Bread k) := by decide +kernel
theorem zi_Bread : ∀ w ∈ u_ws "OthersHands$Bread" zT_Bread 3, w ∈ zgt := by decide +kernel
def zT_Filling : u_T := fun k => match k with
  | 0 => ("OthersHands$Filling", "making", "[I", true)
  | 1 => ("OthersHands$Filling", "choices", "[I", true)
  | 2 => ("OthersHands$Filling", "asks", "I", false)
  | _ => ("OthersHands$Filling", "toldHandsHold", "Z", false)
def zt_Filling : Nat → FieldType := fun k => match k with
  | 0 => .array .int
  | 1 => .array .int
  | 2 => .int
  | _ => .boolean
theorem zn_Filling : ∀ a, a < 4 → ∀ b, b < 4 → a ≠ b → (zT_Filling a).2.1 ≠ (zT_Filling b).2.1 := by decide +kernel
theorem zo_Filling : ∀ k, k < 4 → parseFieldDescriptor (zT_Filling k).2.2.1 = some (zt_Filling k) := by decide +kernel
theorem zi_Filling : ∀ w ∈ u_ws "OthersHands$Filling" zT_Filling 4, w ∈ zgt := by decide +kernel
def zT_Matchmaker : u_T := fun k => match k with
  | 0 => ("OthersHands$Matchmaker", "taint", "[I", true)
  | 1 => ("OthersHands$Matchmaker", "least", "[I", true)
  | _ => ("OthersHands$Matchmaker", "plan", "[I", true)
def zt_Matchmaker : Nat → FieldType := fun k => match k with
  | 0 => .array .int
  | 1 => .array .int
  | _ => .array .int
theorem zn_Matchmaker : ∀ a, a < 3 → ∀ b, b < 3 → a ≠ b → (zT_Matchmaker a).2.1 ≠ (zT_Matchmaker b).2.1 := by decide +kernel
theorem zo_Matchmaker : ∀ k, k < 3 → parseFieldDescriptor (zT_Matchmaker k).2.2.1 = some (zt_Matchmaker k) := by decide +kernel
theorem zi_Matchmaker : ∀ w ∈ u_ws "OthersHands$Matchmaker" zT_Matchmaker 3, w ∈ zgt := by decide +kernel
def zT_Pad : u_T := fun k => match k with
  | 0 => ("OthersHands$Pad", "signs", "[I", true)
  | _ => ("OthersHands$Pad", "count", "I", false)
def zt_Pad : Nat → FieldType := fun k => match k with
  | 0 => .array .int
  | _ => .int
theorem zn_Pad : ∀ a, a < 2 → ∀ b, b < 2 → a ≠ b → (zT_Pad a).2.1 ≠ (zT_Pad b).2.1 := by decide +kernel
theorem zo_Pad : ∀ k, k < 2 → parseFieldDescriptor (zT_Pad k).2.2.1 = some (zt_Pad k) := by decide +kernel
theorem zi_Pad : ∀ w ∈ u_ws "OthersHands$Pad" zT_Pad 2, w ∈ zgt := by decide +kernel
def zT_Pages : u_T := fun k => match k with
  | 0 => ("OthersHands$Pages", "hands", "[I", true)
  | 1 => ("OthersHands$Pages", "first", "[I", true)
  | 2 => ("OthersHands$Pages", "second", "[I", true)
  | 3 => ("OthersHands$Pages", "tool", "[I", true)
  | 4 => ("OthersHands$Pages", "asked", "[I", true)
  | _ => ("OthersHands$Pages", "count", "I", false)
def zt_Pages : Nat → FieldType := fun k => match k with
  | 0 => .array .int
  | 1 => .array .int
  | 2 => .array .int
  | 3 => .array .int
  | 4 => .array .int
  | _ => .int
theorem zn_Pages : ∀ a, a < 6 → ∀ b, b < 6 → a ≠ b → (zT_Pages a).2.1 ≠ (zT_Pages b).2.1 := by decide +kernel
theorem zo_Pages : ∀ k, k < 6 → parseFieldDescriptor (zT_Pages k).2.2.1 = some (zt_Pages k) := by decide +kernel
theorem zi_Pages : ∀ w ∈ u_ws "OthersHands$Pages" zT_Pages 6, w ∈ zgt := by decide +kernel
def zT_Reader : u_T := fun k => match k with
  | 0 => ("OthersHands$Reader", "draft", "LOthersHands$Pages;", true)
  | 1 => ("OthersHands$Reader", "stage", "I", false)
  | _ => ("OthersHands$Reader", "asks", "I", false)
def zt_Reader : Nat → FieldType := fun k => match k with
  | 0 => .object "OthersHands$Pages"
  | 1 => .int
  | _ => .int
theorem zn_Reader : ∀ a, a < 3 → ∀ b, b < 3 → a ≠ b → (zT_Reader a).2.1 ≠ (zT_Reader b).2.1 := by decide +kernel
theorem zo_Reader : ∀ k, k < 3 → parseFieldDescriptor (zT_Reader k).2.2.1 = some (zt_Reader k) := by decide +kernel
theorem zi_Reader : ∀ w ∈ u_ws "OthersHands$Reader" zT_Reader 3, w ∈ zgt := by decide +kernel
def zT_Shares : u_T := fun k => match k with
  | _ => ("OthersHands$Shares", "parts", "[I", true)
def zt_Shares : Nat → FieldType := fun k => match k with
  | _ => .array .int
theorem zn_Shares : ∀ a, a < 1 → ∀ b, b < 1 → a ≠ b → (zT_Shares a).2.1 ≠ (zT_Shares b).2.1 := by decide +kernel
theorem zo_Shares : ∀ k, k < 1 → parseFieldDescriptor (zT_Shares k).2.2.1 = some (zt_Shares k) := by decide +kernel
theorem zi_Shares : ∀ w ∈ u_ws "OthersHands$Shares" zT_Shares 1, w ∈ zgt := by decide +kernel
def zT_Town : u_T := fun k => match k with
  | 0 => ("OthersHands$Town", "pages", "LOthersHands$Pages;", true)
  | 1 => ("OthersHands$Town", "partner", "[I", true)
  | 2 => ("OthersHands$Town", "stock", "[I", true)
  | 3 => ("OthersHands$Town", "seer", "[I", true)
  | 4 => ("OthersHands$Town", "had", "[I", true)
  | 5 => ("OthersHands$Town", "sights", "I", false)
  | 6 => ("OthersHands$Town", "depth", "I", false)
  | 7 => ("OthersHands$Town", "tools", "I", false)
  | _ => ("OthersHands$Town", "tenths", "I", false)
def zt_Town : Nat → FieldType := fun k => match k with
  | 0 => .object "OthersHands$Pages"
  | 1 => .array .int
  | 2 => .array .int
  | 3 => .array .int
  | 4 => .array .int
  | 5 => .int
  | 6 => .int
  | 7 => .int
  | _ => .int
theorem zn_Town : ∀ a, a < 9 → ∀ b, b < 9 → a ≠ b → (zT_Town a).2.1 ≠ (zT_Town b).2.1 := by decide +kernel
theorem zo_Town : ∀ k, k < 9 → parseFieldDescriptor (zT_Town k).2.2.1 = some (zt_Town k) := by decide +kernel
theorem zi_Town : ∀ w ∈ u_ws "OthersHands$Town" zT_Town 9, w ∈ zgt := by decide +kernel
def zT_O : u_T := fun k => match k with
  | 0 => ("OthersHands", "pad", "LOthersHands$Pad;", true)
  | 1 => ("OthersHands", "reader", "LOthersHands$Reader;", true)
  | 2 => ("OthersHands", "town", "LOthersHands$Town;", true)
  | 3 => ("OthersHands", "images", "[LOthersHands$Town;", true)
  | 4 => ("OthersHands", "shares", "LOthersHands$Shares;", true)
  | 5 => ("OthersHands", "filling", "LOthersHands$Filling;", true)
  | 6 => ("OthersHands", "bread", "LOthersHands$Bread;", true)
  | _ => ("OthersHands", "matchmaker", "LOthersHands$Matchmaker;", true)
def zt_O : Nat → FieldType := fun k => match k with
  | 0 => .object "OthersHands$Pad"
  | 1 => .object "OthersHands$Reader"
  | 2 => .object "OthersHands$Town"
  | 3 => .array (.object "OthersHands$Town")
  | 4 => .object "OthersHands$Shares"
  | 5 => .object "OthersHands$Filling"
  | 6 => .object "OthersHands$Bread"
  | _ => .object "OthersHands$Matchmaker"
theorem zn_O : ∀ a, a < 8 → ∀ b, b < 8 → a ≠ b → (zT_O a).2.1 ≠ (zT_O b).2.1 := by decide +kernel
theorem zo_O : ∀ k, k < 8 → parseFieldDescriptor (zT_O k).2.2.1 = some (zt_O k) := by decide +kernel
theorem zi_O : ∀ w ∈ u_ws "OthersHands" zT_O 8, w ∈ zgt := by decide +kernel
def zT_X : u_T := fun k => match k with
  | 0 => ("OthersHandsModel", "depth", "I", false)
  | 1 => ("OthersHandsModel", "tools", "I", false)
  | 2 => ("OthersHandsModel", "tenths", "I", false)
  | 3 => ("OthersHandsModel", "partner", "[I", true)
  | 4 => ("OthersHandsModel", "signs", "I", false)
  | 5 => ("OthersHandsModel", "pad", "[I", true)
  | 6 => ("OthersHandsModel", "things", "I", false)
  | 7 => ("OthersHandsModel", "made", "[I", true)
  | 8 => ("OthersHandsModel", "loaf", "[I", true)
  | 9 => ("OthersHandsModel", "sights", "I", false)
  | 10 => ("OthersHandsModel", "sight", "[I", true)
  | 11 => ("OthersHandsModel", "hands", "[I", true)
  | 12 => ("OthersHandsModel", "steps", "[I", true)
  | 13 => ("OthersHandsModel", "shares", "[I", true)
  | 14 => ("OthersHandsModel", "mays", "[I", true)
  | 15 => ("OthersHandsModel", "eats", "[I", true)
  | 16 => ("OthersHandsModel", "best", "[I", true)
  | 17 => ("OthersHandsModel", "left", "[I", true)
  | 18 => ("OthersHandsModel", "kept", "[I", true)
  | 19 => ("OthersHandsModel", "plan", "[I", true)
  | 20 => ("OthersHandsModel", "image", "[I", true)
  | _ => ("OthersHandsModel", "isKept", "[Z", true)
def zt_X : Nat → FieldType := fun k => match k with
  | 0 => .int
  | 1 => .int
  | 2 => .int
  | 3 => .array .int
  | 4 => .int
  | 5 => .array .int
  | 6 => .int
  | 7 => .array .int
  | 8 => .array .int
  | 9 => .int
  | 10 => .array .int
  | 11 => .array .int
  | 12 => .array .int
  | 13 => .array .int
  | 14 => .array .int
  | 15 => .array .int
  | 16 => .array .int
  | 17 => .array .int
  | 18 => .array .int
  | 19 => .array .int
  | 20 => .array .int
  | _ => .array .boolean
theorem zn_X : ∀ a, a < 22 → ∀ b, b < 22 → a ≠ b → (zT_X a).2.1 ≠ (zT_X b).2.1 := by decide +kernel
theorem zo_X : ∀ k, k < 22 → parseFieldDescriptor (zT_X k).2.2.1 = some (zt_X k) := by decide +kernel
theorem zi_X : ∀ w ∈ u_ws "OthersHandsModel" zT_X 22, w ∈ zgt := by decide +kernel
abbrev zCL : List vw_C := [("OthersHands$Bread", zT_Bread, 3), ("OthersHands$Filling", zT_Filling, 4), ("OthersHands$Matchmaker", zT_Matchmaker, 3), ("OthersHands$Pad", zT_Pad, 2), ("OthersHands$Pages", zT_Pages, 6), ("OthersHands$Reader", zT_Reader, 3), ("OthersHands$Shares", zT_Shares, 1), ("OthersHands$Town", zT_Town, 9), ("OthersHands", zT_O, 8), ("OthersHandsModel", zT_X, 22)]
end
section
/-! THE MACHINE SEEN SMALL: a heap is a list of kinds (positions, not addresses) and the numbers in it; a method's contract says what it answers and what heap it leaves. -/
abbrev zMem : Type := Nat → Nat → Int32
abbrev zShp : Type := (Nat × Nat) ⊕ ((Nat × List (Option (Option Nat))) ⊕ (Nat × (Nat → Option Nat)))
abbrev zCy : Type := ClassId × ClassId × ClassId
abbrev zMI : Type := MethodName × ByteArray × Nat × Option FieldType × Nat × Nat
abbrev zEnd : Type := Option Value → List zShp → zMem → Prop
def zv (B : Nat) (v : Value) : Value := match v with
  | .ref k => .ref (B + k)
  | w => w
def zms (M : zMem) (p i : Nat) (v : Int32) : zMem := fun a b => if a = p then (if b = i then v else M a b) else M a b
def zmr (M : zMem) (p : Nat) (f : Nat → Int32) : zMem := fun a b => if a = p then f b else M a b
def zfv (r : Nat → Int32) (j : Nat) (x : Option (Option Nat)) : Value := match x with
  | none => .int (r j)
  | some q => va_rf q
def zc (cy : zCy) (B : Nat) (r : Nat → Int32) (c : zShp) : va_E := match c with
  | .inl (0, n) => .inl (cy.1, n, .inl r)
  | .inl (_ + 1, n) => .inl (cy.2.1, n, .inl r)
  | .inr (.inl (ci, fs)) => .inr (ci, fs.mapIdx (fun j x => zv B (zfv r j x)))
  | .inr (.inr (n, g)) => .inl (cy.2.2, n, .inr (.inr (.inr (.inr (fun j => (g j).map (B + ·))))))
def zw (cy : zCy) (B : Nat) (sh : List zShp) (M : zMem) : va_W := sh.mapIdx (fun k c => (B + k, zc cy B (M k) c))
def zTY (cy : zCy) : List (ClassId × FieldType) := [(cy.1, .int), (cy.2.1, .boolean), (cy.2.2, .object "OthersHands$Town")]
def zws (μ : zMI) : List Cond := .code μ.1 μ.2.1 μ.2.2.1 μ.2.2.2.1 :: zgt
/-- the words of the nest, and the class of Town's rows -/
def zNx (U : State) : Prop := (∀ w ∈ zns, va_Nw w U) ∧ va_AO "OthersHands$Town" U
def zCx (μ : zMI) (p : Program) (Rm : Room) (s : State) (m : MethodId) (args : Array Value) (meth : Method) (c : Code) : Prop :=
  p.tables.exec = Jvm.exec ∧ c.code = μ.2.1 ∧ meth.sig.returnType = μ.2.2.2.1 ∧ c.maxLocals = μ.2.2.1 ∧ s.vm.findClass μ.1.cls = some m.cls ∧ (∀ w ∈ zgt, w.before args s = true) ∧ meth.locks = false ∧ meth.name = μ.1.name ∧ μ.2.2.2.2.1 ≤ Rm.frames ∧ μ.2.2.2.2.2 ≤ Rm.locals ∧ zNx s
def zWd (D : va_G) (cy : zCy) (B : Nat) (s : State) (H : Heap) (locs : List Loc) (cells : Nat) (sh : List zShp) (M : zMem) : Prop :=
  va_K D zCL (zTY cy) s ∧ va_P D zCL (zw cy B sh M) H ∧ H.size = B + sh.length ∧ s.heap.size + cells = H.size ∧ va_S (fun q => B ≤ q) s.heap H locs ∧ B ≤ s.heap.size
def zQC (D : va_G) (cy : zCy) (B kc : Nat) (R : zEnd) : Array Value → State → Outcome → State → Prop := fun _ st oc t =>
  (∃ (v : Option Value) (sh : List zShp) (M : zMem), oc = .returned (v.map (zv B)) ∧ R v sh M ∧ va_K D zCL (zTY cy) t ∧ va_P D zCL (zw cy B sh M) t.heap ∧ t.heap.size = B + sh.length) ∧ va_F (fun q => B ≤ q) st t ∧ t.heap.size = st.heap.size + kc
def zPre (D : va_G) (cy : zCy) (B : Nat) (as : List Value) (sh : List zShp) (M : zMem) : Array Value → State → Prop := va_Pc (as.map (zv B)) (fun U => va_K D zCL (zTY cy) U ∧ va_P D zCL (zw cy B sh M) U.heap ∧ U.heap.size = B + sh.length ∧ zNx U)
/-- a method's contract: called with these on this heap it returns, and R holds of its answer and the heap behind it; at most kc cells of ks slots are new -/
def zEx (μ : zMI) (kc ks : Nat) (as : List Value) (sh : List zShp) (M : zMem) (R : zEnd) : Prop :=
  ∀ (l : Launch) (D : va_G) (cy : zCy) (B : Nat), Met l μ.1 (zws μ) { frames := μ.2.2.2.2.1, cells := kc, slots := ks, locals := μ.2.2.2.2.2 } (zPre D cy B as sh M) (zQC D cy B kc R) kc ks (fun q => B ≤ q)
/-- from this place the method returns with R -/
def zRT (μ : zMI) (kc ks : Nat) (pc : Nat) (lv : List (Nat × Value)) (st : List Value) (sh : List zShp) (M : zMem) (R : zEnd) : Prop :=
  ∀ (p : Program) (l : Launch) (e : Env) (Rm : Room) (s : State) (m : MethodId) (args : Array Value) (below : List Frame) (meth : Method) (c : Code) (H : Heap) (locs : List Loc) (cells slots : Nat) (D : va_G) (cy : zCy) (B : Nat) (ls : Array Slot),
    zCx μ p Rm s m args meth c → zWd D cy B s H locs cells sh M → cells + kc = Rm.cells → slots + ks ≤ Rm.slots → lv_has ls μ.2.2.1 (lv.map (fun q => (q.1, zv B q.2))) →
    W p l e Rm s m args below meth c H locs cells slots (MQ below (zQC D cy B Rm.cells R) args s Rm.cells Rm.slots (fun q => B ≤ q)) (F0 m pc ls (st.map (zv B)))
theorem zv_int (B : Nat) (x : Int32) : zv B (.int x) = .int x := rfl
theorem zv_rf (B : Nat) (r : Option Nat) : zv B (va_rf r) = va_rf (r.map (B + ·)) := by cases r <;> rfl
theorem zw_at {cy : zCy} {B : Nat} {sh : List zShp} {M : zMem} {o : Nat} {c : zShp} (h : sh[o]? = some c) : (zw cy B sh M)[o]? = some (B + o, zc cy B (M o) c) := by
  simp [zw, List.getElem?_mapIdx, h]
theorem zw_len (cy : zCy) (B : Nat) (sh : List zShp) (M : zMem) : (zw cy B sh M).length = sh.length := by simp [zw]
theorem zw_D (cy : zCy) (B : Nat) (sh : List zShp) (M : zMem) : va_D (fun q => B ≤ q) (zw cy B sh M) := by
  have h : ∀ (i : Nat) (p : Nat × va_E), (zw cy B sh M)[i]? = some p → p.1 = B + i := by
    intro i p hp
    simp only [zw, List.getElem?_mapIdx, Option.map_eq_some_iff] at hp
    obtain ⟨c, -, rfl⟩ := hp
    rfl
  refine ⟨fun i j p q hp hq e => ?_, fun k q hq => ?_⟩
  · have h1 := h i p hp
    have h2 := h j q hq
    omega
  · have h1 := h k q hq
    show B ≤ q.1
    omega
theorem zw_set {cy : zCy} {B : Nat} {sh : List zShp} {M M' : zMem} {o : Nat} {c c' : zShp} (h : sh[o]? = some c) (hM : ∀ k, k ≠ o → M' k = M k) : zw cy B (sh.set o c') M' = (zw cy B sh M).set o (B + o, zc cy B (M' o) c') := by
  have hl : o < sh.length := (List.getElem?_eq_some_iff.mp h).1
  refine List.ext_getElem? fun k => ?_
  by_cases hk : o = k
  · subst hk
    simp [zw, List.getElem?_mapIdx, List.getElem?_set, hl]
  · simp only [zw, List.getElem?_mapIdx, List.getElem?_set, if_neg hk, hM k (fun q => hk q.symm)]
theorem zw_same {cy : zCy} {B : Nat} {sh : List zShp} {M M' : zMem} {o : Nat} {c : zShp} (h : sh[o]? = some c) (hM : ∀ k, k ≠ o → M' k = M k) : zw cy B sh M' = (zw cy B sh M).set o (B + o, zc cy B (M' o) c) := by
  have h1 : sh.set o c = sh := by
    refine List.ext_getElem? fun k => ?_
    by_cases hk : o = k
    · subst hk
      rw [List.getElem?_set_self (List.getElem?_eq_some_iff.mp h).1, h]
    · rw [List.getElem?_set_ne hk]
  have h2 := zw_set (cy := cy) (B := B) (c' := c) h hM
  rw [h1] at h2
  exact h2
theorem zw_push (cy : zCy) (B : Nat) (sh : List zShp) (M : zMem) (c : zShp) (f : Nat → Int32) : zw cy B (sh ++ [c]) (zmr M sh.length f) = zw cy B sh M ++ [(B + sh.length, zc cy B f c)] := by
  refine List.ext_getElem? fun k => ?_
  rcases Nat.lt_trichotomy k sh.length with h | h | h
  · rw [List.getElem?_append_left (by rw [zw_len]; exact h)]
    have hr : zmr M sh.length f k = M k := by funext b; simp [zmr, Nat.ne_of_lt h]
    simp only [zw, List.getElem?_mapIdx, List.getElem?_append_left h, hr]
  · subst h
    rw [List.getElem?_append_right (by rw [zw_len]; exact Nat.le_refl _), zw_len]
    have hr : zmr M sh.length f sh.length = f := by funext b; simp [zmr]
    simp [zw, List.getElem?_mapIdx, hr]
  · rw [List.getElem?_eq_none (by simp [zw]; omega), List.getElem?_eq_none (by simp [zw]; omega)]
theorem zms_ne (M : zMem) (p i : Nat) (v : Int32) : ∀ k, k ≠ p → zms M p i v k = M k := fun k h => by funext b; simp [zms, h]
theorem zms_row (M : zMem) (p i : Nat) (v : Int32) : zms M p i v p = upd (M p) i v := by funext b; simp [zms, upd]
theorem zmr_ne (M : zMem) (p : Nat) (f : Nat → Int32) : ∀ k, k ≠ p → zmr M p f k = M k := fun k h => by funext b; simp [zmr, h]
theorem zmr_row (M : zMem) (p : Nat) (f : Nat → Int32) : zmr M p f p = f := by funext b; simp [zmr]
theorem zc_fs {B : Nat} {r : Nat → Int32} {fs : List (Option (Option Nat))} {k : Nat} {v : Int32} (hk : fs[k]? = some none) : fs.mapIdx (fun j x => zv B (zfv (upd r k v) j x)) = (fs.mapIdx (fun j x => zv B (zfv r j x))).set k (.int v) := by
  have hl : k < fs.length := (List.getElem?_eq_some_iff.mp hk).1
  refine List.ext_getElem? fun j => ?_
  by_cases hj : k = j
  · subst hj
    rw [List.getElem?_set_self (by simp; exact hl), List.getElem?_mapIdx, hk]
    simp [zfv, zv, upd]
  · rw [List.getElem?_set_ne hj]
    simp only [List.getElem?_mapIdx]
    congr 1
    funext x
    cases x with
    | none => simp only [zfv, upd, if_neg (fun q : j = k => hj q.symm)]
    | some q => rfl
theorem zc_fr {B : Nat} {r : Nat → Int32} {fs : List (Option (Option Nat))} {k : Nat} (q : Option Nat) (hl : k < fs.length) : (fs.set k (some q)).mapIdx (fun j x => zv B (zfv r j x)) = (fs.mapIdx (fun j x => zv B (zfv r j x))).set k (zv B (va_rf q)) := by
  refine List.ext_getElem? fun j => ?_
  by_cases hj : k = j
  · subst hj
    simp [List.getElem?_mapIdx, List.getElem?_set, hl, zfv]
  · rw [List.getElem?_set_ne hj]
    simp only [List.getElem?_mapIdx, List.getElem?_set_ne hj]

theorem zs_iconst {μ : zMI} {kc ks pc : Nat} {lv : List (Nat × Value)} {st : List Value} {sh : List zShp} {M : zMem} {R : zEnd} {n : Int} (v : Int32) (hd : decode μ.2.1 pc = .ok (.iconst n, 1)) (hv : Int32.ofInt n = v) (k : (zRT μ kc ks (pc + 1) lv (.int v :: st) sh M R)) : (zRT μ kc ks (pc) lv (st) sh M R) := by
  intro p l e Rm s m args below meth c H locs cells slots D cy B ls C V hc hs hl
  exact lv_iconst C.1 C.2.1 hd hv (k p l e Rm s m args below meth c H locs cells slots D cy B ls C V hc hs hl)
theorem zs_bipush {μ : zMI} {kc ks pc : Nat} {lv : List (Nat × Value)} {st : List Value} {sh : List zShp} {M : zMem} {R : zEnd} {n : Int} (v : Int32) (hd : decode μ.2.1 pc = .ok (.bipush n, 2)) (hv : (Int8.ofInt n).toInt32 = v) (k : (zRT μ kc ks (pc + 2) lv (.int v :: st) sh M R)) : (zRT μ kc ks (pc) lv (st) sh M R) := by
  intro p l e Rm s m args below meth c H locs cells slots D cy B ls C V hc hs hl
  exact lv_bipush C.1 C.2.1 hd hv (k p l e Rm s m args below meth c H locs cells slots D cy B ls C V hc hs hl)
theorem zs_sipush {μ : zMI} {kc ks pc : Nat} {lv : List (Nat × Value)} {st : List Value} {sh : List zShp} {M : zMem} {R : zEnd} {n : Int} (v : Int32) (hd : decode μ.2.1 pc = .ok (.sipush n, 3)) (hv : (Int16.ofInt n).toInt32 = v) (k : (zRT μ kc ks (pc + 3) lv (.int v :: st) sh M R)) : (zRT μ kc ks (pc) lv (st) sh M R) := by
  intro p l e Rm s m args below meth c H locs cells slots D cy B ls C V hc hs hl
  exact lv_sipush C.1 C.2.1 hd hv (k p l e Rm s m args below meth c H locs cells slots D cy B ls C V hc hs hl)
theorem zs_iload_n {μ : zMI} {kc ks pc : Nat} {lv : List (Nat × Value)} {st : List Value} {sh : List zShp} {M : zMem} {R : zEnd} {n : Fin 4} (j : Nat) {x : Int32} (hd : decode μ.2.1 pc = .ok (.iload_n n, 1)) (hn : (n : Nat) = j) (hi : (j, Value.int x) ∈ lv) (k : (zRT μ kc ks (pc + 1) lv (.int x :: st) sh M R)) : (zRT μ kc ks (pc) lv (st) sh M R) := by
  intro p l e Rm s m args below meth c H locs cells slots D cy B ls C V hc hs hl
  exact lv_iload_n C.1 C.2.1 hd hn (hl.2.2 (j, .int x) (List.mem_map.mpr ⟨_, hi, rfl⟩)) (k p l e Rm s m args below meth c H locs cells slots D cy B ls C V hc hs hl)
theorem zs_iload {μ : zMI} {kc ks pc : Nat} {lv : List (Nat × Value)} {st : List Value} {sh : List zShp} {M : zMem} {R : zEnd} {j : Nat} {x : Int32} (hd : decode μ.2.1 pc = .ok (.iload j, 2)) (hi : (j, Value.int x) ∈ lv) (k : (zRT μ kc ks (pc + 2) lv (.int x :: st) sh M R)) : (zRT μ kc ks (pc) lv (st) sh M R) := by
  intro p l e Rm s m args below meth c H locs cells slots D cy B ls C V hc hs hl
  exact lv_iload C.1 C.2.1 hd (hl.2.2 (j, .int x) (List.mem_map.mpr ⟨_, hi, rfl⟩)) (k p l e Rm s m args below meth c H locs cells slots D cy B ls C V hc hs hl)
theorem zs_aload_n {μ : zMI} {kc ks pc : Nat} {lv : List (Nat × Value)} {st : List Value} {sh : List zShp} {M : zMem} {R : zEnd} {n : Fin 4} (j : Nat) {x : Nat} (hd : decode μ.2.1 pc = .ok (.aload_n n, 1)) (hn : (n : Nat) = j) (hi : (j, Value.ref x) ∈ lv) (k : (zRT μ kc ks (pc + 1) lv (.ref x :: st) sh M R)) : (zRT μ kc ks (pc) lv (st) sh M R) := by
  intro p l e Rm s m args below meth c H locs cells slots D cy B ls C V hc hs hl
  exact lv_aload_n C.1 C.2.1 hd hn (hl.2.2 (j, .ref (B + x)) (List.mem_map.mpr ⟨_, hi, rfl⟩)) (k p l e Rm s m args below meth c H locs cells slots D cy B ls C V hc hs hl)
theorem zs_aload {μ : zMI} {kc ks pc : Nat} {lv : List (Nat × Value)} {st : List Value} {sh : List zShp} {M : zMem} {R : zEnd} {j : Nat} {x : Nat} (hd : decode μ.2.1 pc = .ok (.aload j, 2)) (hi : (j, Value.ref x) ∈ lv) (k : (zRT μ kc ks (pc + 2) lv (.ref x :: st) sh M R)) : (zRT μ kc ks (pc) lv (st) sh M R) := by
  intro p l e Rm s m args below meth c H locs cells slots D cy B ls C V hc hs hl
  exact lv_aload C.1 C.2.1 hd (hl.2.2 (j, .ref (B + x)) (List.mem_map.mpr ⟨_, hi, rfl⟩)) (k p l e Rm s m args below meth c H locs cells slots D cy B ls C V hc hs hl)
theorem zs_aload_nN {μ : zMI} {kc ks pc : Nat} {lv : List (Nat × Value)} {st : List Value} {sh : List zShp} {M : zMem} {R : zEnd} {n : Fin 4} (j : Nat) (hd : decode μ.2.1 pc = .ok (.aload_n n, 1)) (hn : (n : Nat) = j) (hi : (j, Value.null) ∈ lv) (k : (zRT μ kc ks (pc + 1) lv (.null :: st) sh M R)) : (zRT μ kc ks (pc) lv (st) sh M R) := by
  intro p l e Rm s m args below meth c H locs cells slots D cy B ls C V hc hs hl
  exact lv_aload_nN C.1 C.2.1 hd hn (hl.2.2 (j, .null) (List.mem_map.mpr ⟨_, hi, rfl⟩)) (k p l e Rm s m args below meth c H locs cells slots D cy B ls C V hc hs hl)
def zsto (lv : List (Nat × Value)) (j : Nat) (v : Value) : List (Nat × Value) := (j, v) :: lv.filter (fun q => !(q.1 == j) && !(q.1 + 1 == j && q.2.category == 2))
theorem zv_cat (B : Nat) (v : Value) : (zv B v).category = v.category := by cases v <;> rfl
theorem zsto_map (B : Nat) (lv : List (Nat × Value)) (j : Nat) (v : Value) : (j, zv B v) :: (lv.map (fun q => (q.1, zv B q.2))).filter (fun q => !(q.1 == j) && !(q.1 + 1 == j && q.2.category == 2)) = (zsto lv j v).map (fun q => (q.1, zv B q.2)) := by
  simp [zsto, List.filter_map, Function.comp_def, zv_cat]
theorem zs_istore_n {μ : zMI} {kc ks pc : Nat} {lv : List (Nat × Value)} {st : List Value} {sh : List zShp} {M : zMem} {R : zEnd} {n : Fin 4} (j : Nat) {x : Int32} (lv2 : List (Nat × Value)) (hd : decode μ.2.1 pc = .ok (.istore_n n, 1)) (hn : (n : Nat) = j) (hj : j < μ.2.2.1) (hlv : zsto lv j (.int x) = lv2) (k : (zRT μ kc ks (pc + 1) lv2 (st) sh M R)) : (zRT μ kc ks (pc) lv (.int x :: st) sh M R) := by
  intro p l e Rm s m args below meth c H locs cells slots D cy B ls C V hc hs hl
  subst hlv
  exact lv_istore_n C.1 C.2.1 hd hn hl hj (zsto_map B lv j (.int x)) (fun ls2 hl2 => k p l e Rm s m args below meth c H locs cells slots D cy B ls2 C V hc hs hl2)
theorem zs_istore {μ : zMI} {kc ks pc : Nat} {lv : List (Nat × Value)} {st : List Value} {sh : List zShp} {M : zMem} {R : zEnd} {j : Nat} {x : Int32} (lv2 : List (Nat × Value)) (hd : decode μ.2.1 pc = .ok (.istore j, 2)) (hj : j < μ.2.2.1) (hlv : zsto lv j (.int x) = lv2) (k : (zRT μ kc ks (pc + 2) lv2 (st) sh M R)) : (zRT μ kc ks (pc) lv (.int x :: st) sh M R) := by
  intro p l e Rm s m args below meth c H locs cells slots D cy B ls C V hc hs hl
  subst hlv
  exact lv_istore C.1 C.2.1 hd hl hj (zsto_map B lv j (.int x)) (fun ls2 hl2 => k p l e Rm s m args below meth c H locs cells slots D cy B ls2 C V hc hs hl2)
theorem zs_astore_n {μ : zMI} {kc ks pc : Nat} {lv : List (Nat × Value)} {st : List Value} {sh : List zShp} {M : zMem} {R : zEnd} {n : Fin 4} (j : Nat) {x : Nat} (lv2 : List (Nat × Value)) (hd : decode μ.2.1 pc = .ok (.astore_n n, 1)) (hn : (n : Nat) = j) (hj : j < μ.2.2.1) (hlv : zsto lv j (.ref x) = lv2) (k : (zRT μ kc ks (pc + 1) lv2 (st) sh M R)) : (zRT μ kc ks (pc) lv (.ref x :: st) sh M R) := by
  intro p l e Rm s m args below meth c H locs cells slots D cy B ls C V hc hs hl
  subst hlv
  exact lv_astore_n C.1 C.2.1 hd hn hl hj (zsto_map B lv j (.ref x)) (fun ls2 hl2 => k p l e Rm s m args below meth c H locs cells slots D cy B ls2 C V hc hs hl2)
theorem zs_astore {μ : zMI} {kc ks pc : Nat} {lv : List (Nat × Value)} {st : List Value} {sh : List zShp} {M : zMem} {R : zEnd} {j : Nat} {x : Nat} (lv2 : List (Nat × Value)) (hd : decode μ.2.1 pc = .ok (.astore j, 2)) (hj : j < μ.2.2.1) (hlv : zsto lv j (.ref x) = lv2) (k : (zRT μ kc ks (pc + 2) lv2 (st) sh M R)) : (zRT μ kc ks (pc) lv (.ref x :: st) sh M R) := by
  intro p l e Rm s m args below meth c H locs cells slots D cy B ls C V hc hs hl
  subst hlv
  exact lv_astore C.1 C.2.1 hd hl hj (zsto_map B lv j (.ref x)) (fun ls2 hl2 => k p l e Rm s m args below meth c H locs cells slots D cy B ls2 C V hc hs hl2)
theorem zs_astore_nN {μ : zMI} {kc ks pc : Nat} {lv : List (Nat × Value)} {st : List Value} {sh : List zShp} {M : zMem} {R : zEnd} {n : Fin 4} (j : Nat) (lv2 : List (Nat × Value)) (hd : decode μ.2.1 pc = .ok (.astore_n n, 1)) (hn : (n : Nat) = j) (hj : j < μ.2.2.1) (hlv : zsto lv j .null = lv2) (k : (zRT μ kc ks (pc + 1) lv2 (st) sh M R)) : (zRT μ kc ks (pc) lv (.null :: st) sh M R) := by
  intro p l e Rm s m args below meth c H locs cells slots D cy B ls C V hc hs hl
  subst hlv
  exact lv_astore_nN C.1 C.2.1 hd hn hl hj (zsto_map B lv j .null) (fun ls2 hl2 => k p l e Rm s m args below meth c H locs cells slots D cy B ls2 C V hc hs hl2)
theorem zs_iinc {μ : zMI} {kc ks pc : Nat} {lv : List (Nat × Value)} {st : List Value} {sh : List zShp} {M : zMem} {R : zEnd} {j : Nat} {n : Int} {x : Int32} (i : Nat) (v : Int32) (lv2 : List (Nat × Value)) (hd : decode μ.2.1 pc = .ok (.iinc j n, 3)) (hi : lv[i]? = some (j, .int x)) (hv : x + Int32.ofInt n = v) (hj : j < μ.2.2.1) (hlv : zsto lv j (.int v) = lv2) (k : (zRT μ kc ks (pc + 3) lv2 (st) sh M R)) : (zRT μ kc ks (pc) lv (st) sh M R) := by
  intro p l e Rm s m args below meth c H locs cells slots D cy B ls C V hc hs hl
  subst hlv
  exact lv_iinc (k := i) C.1 C.2.1 hd hl (by rw [List.getElem?_map, hi]; rfl) hv hj (zsto_map B lv j (.int v)) (fun ls2 hl2 => k p l e Rm s m args below meth c H locs cells slots D cy B ls2 C V hc hs hl2)
theorem zs_iadd {μ : zMI} {kc ks pc : Nat} {lv : List (Nat × Value)} {st : List Value} {sh : List zShp} {M : zMem} {R : zEnd} {x y : Int32} (hd : decode μ.2.1 pc = .ok (.iadd, 1))  (k : (zRT μ kc ks (pc + 1) lv (.int (x + y) :: st) sh M R)) : (zRT μ kc ks (pc) lv (.int y :: .int x :: st) sh M R) := by
  intro p l e Rm s m args below meth c H locs cells slots D cy B ls C V hc hs hl
  exact lv_iadd C.1 C.2.1 hd  (k p l e Rm s m args below meth c H locs cells slots D cy B ls C V hc hs hl)
theorem zs_isub {μ : zMI} {kc ks pc : Nat} {lv : List (Nat × Value)} {st : List Value} {sh : List zShp} {M : zMem} {R : zEnd} {x y : Int32} (hd : decode μ.2.1 pc = .ok (.isub, 1))  (k : (zRT μ kc ks (pc + 1) lv (.int (x - y) :: st) sh M R)) : (zRT μ kc ks (pc) lv (.int y :: .int x :: st) sh M R) := by
  intro p l e Rm s m args below meth c H locs cells slots D cy B ls C V hc hs hl
  exact lv_isub C.1 C.2.1 hd  (k p l e Rm s m args below meth c H locs cells slots D cy B ls C V hc hs hl)
theorem zs_imul {μ : zMI} {kc ks pc : Nat} {lv : List (Nat × Value)} {st : List Value} {sh : List zShp} {M : zMem} {R : zEnd} {x y : Int32} (hd : decode μ.2.1 pc = .ok (.imul, 1))  (k : (zRT μ kc ks (pc + 1) lv (.int (x * y) :: st) sh M R)) : (zRT μ kc ks (pc) lv (.int y :: .int x :: st) sh M R) := by
  intro p l e Rm s m args below meth c H locs cells slots D cy B ls C V hc hs hl
  exact lv_imul C.1 C.2.1 hd  (k p l e Rm s m args below meth c H locs cells slots D cy B ls C V hc hs hl)
theorem zs_iand {μ : zMI} {kc ks pc : Nat} {lv : List (Nat × Value)} {st : List Value} {sh : List zShp} {M : zMem} {R : zEnd} {x y : Int32} (hd : decode μ.2.1 pc = .ok (.iand, 1))  (k : (zRT μ kc ks (pc + 1) lv (.int (x &&& y) :: st) sh M R)) : (zRT μ kc ks (pc) lv (.int y :: .int x :: st) sh M R) := by
  intro p l e Rm s m args below meth c H locs cells slots D cy B ls C V hc hs hl
  exact lv_iand C.1 C.2.1 hd  (k p l e Rm s m args below meth c H locs cells slots D cy B ls C V hc hs hl)
theorem zs_ior {μ : zMI} {kc ks pc : Nat} {lv : List (Nat × Value)} {st : List Value} {sh : List zShp} {M : zMem} {R : zEnd} {x y : Int32} (hd : decode μ.2.1 pc = .ok (.ior, 1))  (k : (zRT μ kc ks (pc + 1) lv (.int (x ||| y) :: st) sh M R)) : (zRT μ kc ks (pc) lv (.int y :: .int x :: st) sh M R) := by
  intro p l e Rm s m args below meth c H locs cells slots D cy B ls C V hc hs hl
  exact lv_ior C.1 C.2.1 hd  (k p l e Rm s m args below meth c H locs cells slots D cy B ls C V hc hs hl)
theorem zs_ixor {μ : zMI} {kc ks pc : Nat} {lv : List (Nat × Value)} {st : List Value} {sh : List zShp} {M : zMem} {R : zEnd} {x y : Int32} (hd : decode μ.2.1 pc = .ok (.ixor, 1))  (k : (zRT μ kc ks (pc + 1) lv (.int (x ^^^ y) :: st) sh M R)) : (zRT μ kc ks (pc) lv (.int y :: .int x :: st) sh M R) := by
  intro p l e Rm s m args below meth c H locs cells slots D cy B ls C V hc hs hl
  exact lv_ixor C.1 C.2.1 hd  (k p l e Rm s m args below meth c H locs cells slots D cy B ls C V hc hs hl)
theorem zs_ishl {μ : zMI} {kc ks pc : Nat} {lv : List (Nat × Value)} {st : List Value} {sh : List zShp} {M : zMem} {R : zEnd} {x y : Int32} (hd : decode μ.2.1 pc = .ok (.ishl, 1))  (k : (zRT μ kc ks (pc + 1) lv (.int (x <<< (y &&& 31)) :: st) sh M R)) : (zRT μ kc ks (pc) lv (.int y :: .int x :: st) sh M R) := by
  intro p l e Rm s m args below meth c H locs cells slots D cy B ls C V hc hs hl
  exact lv_ishl C.1 C.2.1 hd  (k p l e Rm s m args below meth c H locs cells slots D cy B ls C V hc hs hl)
theorem zs_ishr {μ : zMI} {kc ks pc : Nat} {lv : List (Nat × Value)} {st : List Value} {sh : List zShp} {M : zMem} {R : zEnd} {x y : Int32} (hd : decode μ.2.1 pc = .ok (.ishr, 1))  (k : (zRT μ kc ks (pc + 1) lv (.int (x >>> (y &&& 31)) :: st) sh M R)) : (zRT μ kc ks (pc) lv (.int y :: .int x :: st) sh M R) := by
  intro p l e Rm s m args below meth c H locs cells slots D cy B ls C V hc hs hl
  exact lv_ishr C.1 C.2.1 hd  (k p l e Rm s m args below meth c H locs cells slots D cy B ls C V hc hs hl)
theorem zs_idiv {μ : zMI} {kc ks pc : Nat} {lv : List (Nat × Value)} {st : List Value} {sh : List zShp} {M : zMem} {R : zEnd} {x y : Int32} (hd : decode μ.2.1 pc = .ok (.idiv, 1)) (hne : ¬ y = 0) (k : (zRT μ kc ks (pc + 1) lv (.int (x / y) :: st) sh M R)) : (zRT μ kc ks (pc) lv (.int y :: .int x :: st) sh M R) := by
  intro p l e Rm s m args below meth c H locs cells slots D cy B ls C V hc hs hl
  exact lv_idiv C.1 C.2.1 hd hne (k p l e Rm s m args below meth c H locs cells slots D cy B ls C V hc hs hl)
theorem zs_irem {μ : zMI} {kc ks pc : Nat} {lv : List (Nat × Value)} {st : List Value} {sh : List zShp} {M : zMem} {R : zEnd} {x y : Int32} (hd : decode μ.2.1 pc = .ok (.irem, 1)) (hne : ¬ y = 0) (k : (zRT μ kc ks (pc + 1) lv (.int (x - x / y * y) :: st) sh M R)) : (zRT μ kc ks (pc) lv (.int y :: .int x :: st) sh M R) := by
  intro p l e Rm s m args below meth c H locs cells slots D cy B ls C V hc hs hl
  exact lv_irem C.1 C.2.1 hd hne (k p l e Rm s m args below meth c H locs cells slots D cy B ls C V hc hs hl)
theorem zs_iushr {μ : zMI} {kc ks pc : Nat} {lv : List (Nat × Value)} {st : List Value} {sh : List zShp} {M : zMem} {R : zEnd} {x y : Int32} (hd : decode μ.2.1 pc = .ok (.iushr, 1)) (k : (zRT μ kc ks (pc + 1) lv (.int ((x.toUInt32 >>> (y.toUInt32 &&& Int32.toUInt32 31)).toInt32) :: st) sh M R)) : (zRT μ kc ks (pc) lv (.int y :: .int x :: st) sh M R) := by
  intro p l e Rm s m args below meth c H locs cells slots D cy B ls C V hc hs hl
  exact lv_iushr C.1 C.2.1 hd rfl (k p l e Rm s m args below meth c H locs cells slots D cy B ls C V hc hs hl)
theorem zs_ineg {μ : zMI} {kc ks pc : Nat} {lv : List (Nat × Value)} {st : List Value} {sh : List zShp} {M : zMem} {R : zEnd} {x : Int32} (hd : decode μ.2.1 pc = .ok (.ineg, 1)) (k : (zRT μ kc ks (pc + 1) lv (.int (-x) :: st) sh M R)) : (zRT μ kc ks (pc) lv (.int x :: st) sh M R) := by
  intro p l e Rm s m args below meth c H locs cells slots D cy B ls C V hc hs hl
  exact lv_ineg C.1 C.2.1 hd (k p l e Rm s m args below meth c H locs cells slots D cy B ls C V hc hs hl)
theorem zs_i2l {μ : zMI} {kc ks pc : Nat} {lv : List (Nat × Value)} {st : List Value} {sh : List zShp} {M : zMem} {R : zEnd} {x : Int32} (hd : decode μ.2.1 pc = .ok (.i2l, 1)) (k : (zRT μ kc ks (pc + 1) lv (.long x.toInt64 :: st) sh M R)) : (zRT μ kc ks (pc) lv (.int x :: st) sh M R) := by
  intro p l e Rm s m args below meth c H locs cells slots D cy B ls C V hc hs hl
  exact lv_i2l C.1 C.2.1 hd rfl (k p l e Rm s m args below meth c H locs cells slots D cy B ls C V hc hs hl)
theorem zs_dup {μ : zMI} {kc ks pc : Nat} {lv : List (Nat × Value)} {st : List Value} {sh : List zShp} {M : zMem} {R : zEnd} {v : Value} (hd : decode μ.2.1 pc = .ok (.dup, 1)) (hv : v.category = 1) (k : (zRT μ kc ks (pc + 1) lv (v :: v :: st) sh M R)) : (zRT μ kc ks (pc) lv (v :: st) sh M R) := by
  intro p l e Rm s m args below meth c H locs cells slots D cy B ls C V hc hs hl
  exact lv_dup C.1 C.2.1 hd ((zv_cat B v).trans hv) (k p l e Rm s m args below meth c H locs cells slots D cy B ls C V hc hs hl)
theorem zs_dup2 {μ : zMI} {kc ks pc : Nat} {lv : List (Nat × Value)} {st : List Value} {sh : List zShp} {M : zMem} {R : zEnd} {v w : Value} (hd : decode μ.2.1 pc = .ok (.dup2, 1)) (hv : v.category = 1) (hw : w.category = 1) (k : (zRT μ kc ks (pc + 1) lv (v :: w :: v :: w :: st) sh M R)) : (zRT μ kc ks (pc) lv (v :: w :: st) sh M R) := by
  intro p l e Rm s m args below meth c H locs cells slots D cy B ls C V hc hs hl
  exact lv_dup2_11 C.1 C.2.1 hd ((zv_cat B v).trans hv) ((zv_cat B w).trans hw) (k p l e Rm s m args below meth c H locs cells slots D cy B ls C V hc hs hl)
theorem zs_pop {μ : zMI} {kc ks pc : Nat} {lv : List (Nat × Value)} {st : List Value} {sh : List zShp} {M : zMem} {R : zEnd} {v : Value} (hd : decode μ.2.1 pc = .ok (.pop, 1)) (hv : v.category = 1) (k : (zRT μ kc ks (pc + 1) lv (st) sh M R)) : (zRT μ kc ks (pc) lv (v :: st) sh M R) := by
  intro p l e Rm s m args below meth c H locs cells slots D cy B ls C V hc hs hl
  exact lv_pop C.1 C.2.1 hd ((zv_cat B v).trans hv) (k p l e Rm s m args below meth c H locs cells slots D cy B ls C V hc hs hl)
theorem zs_if_eq {μ : zMI} {kc ks pc : Nat} {lv : List (Nat × Value)} {st : List Value} {sh : List zShp} {M : zMem} {R : zEnd} {x : Int32} {off : Int} (tgt : Nat) (hd : decode μ.2.1 pc = .ok (.ifCond .eq off, 3)) (ht : (pc : Int) + off = (tgt : Int)) (kt : x = 0 → (zRT μ kc ks (tgt) lv (st) sh M R)) (kf : ¬ x = 0 → (zRT μ kc ks (pc + 3) lv (st) sh M R)) : (zRT μ kc ks (pc) lv (.int x :: st) sh M R) := by
  intro p l e Rm s m args below meth c H locs cells slots D cy B ls C V hc hs hl
  exact lv_if_eq C.1 C.2.1 hd ht (fun z => kt z p l e Rm s m args below meth c H locs cells slots D cy B ls C V hc hs hl) (fun z => kf z p l e Rm s m args below meth c H locs cells slots D cy B ls C V hc hs hl)
theorem zs_if_ne {μ : zMI} {kc ks pc : Nat} {lv : List (Nat × Value)} {st : List Value} {sh : List zShp} {M : zMem} {R : zEnd} {x : Int32} {off : Int} (tgt : Nat) (hd : decode μ.2.1 pc = .ok (.ifCond .ne off, 3)) (ht : (pc : Int) + off = (tgt : Int)) (kt : ¬ x = 0 → (zRT μ kc ks (tgt) lv (st) sh M R)) (kf : x = 0 → (zRT μ kc ks (pc + 3) lv (st) sh M R)) : (zRT μ kc ks (pc) lv (.int x :: st) sh M R) := by
  intro p l e Rm s m args below meth c H locs cells slots D cy B ls C V hc hs hl
  exact lv_if_ne C.1 C.2.1 hd ht (fun z => kt z p l e Rm s m args below meth c H locs cells slots D cy B ls C V hc hs hl) (fun z => kf z p l e Rm s m args below meth c H locs cells slots D cy B ls C V hc hs hl)
theorem zs_if_lt {μ : zMI} {kc ks pc : Nat} {lv : List (Nat × Value)} {st : List Value} {sh : List zShp} {M : zMem} {R : zEnd} {x : Int32} {off : Int} (tgt : Nat) (hd : decode μ.2.1 pc = .ok (.ifCond .lt off, 3)) (ht : (pc : Int) + off = (tgt : Int)) (kt : x < 0 → (zRT μ kc ks (tgt) lv (st) sh M R)) (kf : ¬ x < 0 → (zRT μ kc ks (pc + 3) lv (st) sh M R)) : (zRT μ kc ks (pc) lv (.int x :: st) sh M R) := by
  intro p l e Rm s m args below meth c H locs cells slots D cy B ls C V hc hs hl
  exact lv_if_lt C.1 C.2.1 hd ht (fun z => kt z p l e Rm s m args below meth c H locs cells slots D cy B ls C V hc hs hl) (fun z => kf z p l e Rm s m args below meth c H locs cells slots D cy B ls C V hc hs hl)
theorem zs_if_ge {μ : zMI} {kc ks pc : Nat} {lv : List (Nat × Value)} {st : List Value} {sh : List zShp} {M : zMem} {R : zEnd} {x : Int32} {off : Int} (tgt : Nat) (hd : decode μ.2.1 pc = .ok (.ifCond .ge off, 3)) (ht : (pc : Int) + off = (tgt : Int)) (kt : 0 ≤ x → (zRT μ kc ks (tgt) lv (st) sh M R)) (kf : ¬ 0 ≤ x → (zRT μ kc ks (pc + 3) lv (st) sh M R)) : (zRT μ kc ks (pc) lv (.int x :: st) sh M R) := by
  intro p l e Rm s m args below meth c H locs cells slots D cy B ls C V hc hs hl
  exact lv_if_ge C.1 C.2.1 hd ht (fun z => kt z p l e Rm s m args below meth c H locs cells slots D cy B ls C V hc hs hl) (fun z => kf z p l e Rm s m args below meth c H locs cells slots D cy B ls C V hc hs hl)
theorem zs_if_gt {μ : zMI} {kc ks pc : Nat} {lv : List (Nat × Value)} {st : List Value} {sh : List zShp} {M : zMem} {R : zEnd} {x : Int32} {off : Int} (tgt : Nat) (hd : decode μ.2.1 pc = .ok (.ifCond .gt off, 3)) (ht : (pc : Int) + off = (tgt : Int)) (kt : 0 < x → (zRT μ kc ks (tgt) lv (st) sh M R)) (kf : ¬ 0 < x → (zRT μ kc ks (pc + 3) lv (st) sh M R)) : (zRT μ kc ks (pc) lv (.int x :: st) sh M R) := by
  intro p l e Rm s m args below meth c H locs cells slots D cy B ls C V hc hs hl
  exact lv_if_gt C.1 C.2.1 hd ht (fun z => kt z p l e Rm s m args below meth c H locs cells slots D cy B ls C V hc hs hl) (fun z => kf z p l e Rm s m args below meth c H locs cells slots D cy B ls C V hc hs hl)
theorem zs_if_le {μ : zMI} {kc ks pc : Nat} {lv : List (Nat × Value)} {st : List Value} {sh : List zShp} {M : zMem} {R : zEnd} {x : Int32} {off : Int} (tgt : Nat) (hd : decode μ.2.1 pc = .ok (.ifCond .le off, 3)) (ht : (pc : Int) + off = (tgt : Int)) (kt : x ≤ 0 → (zRT μ kc ks (tgt) lv (st) sh M R)) (kf : ¬ x ≤ 0 → (zRT μ kc ks (pc + 3) lv (st) sh M R)) : (zRT μ kc ks (pc) lv (.int x :: st) sh M R) := by
  intro p l e Rm s m args below meth c H locs cells slots D cy B ls C V hc hs hl
  exact lv_if_le C.1 C.2.1 hd ht (fun z => kt z p l e Rm s m args below meth c H locs cells slots D cy B ls C V hc hs hl) (fun z => kf z p l e Rm s m args below meth c H locs cells slots D cy B ls C V hc hs hl)
theorem zs_icmp_eq {μ : zMI} {kc ks pc : Nat} {lv : List (Nat × Value)} {st : List Value} {sh : List zShp} {M : zMem} {R : zEnd} {x y : Int32} {off : Int} (tgt : Nat) (hd : decode μ.2.1 pc = .ok (.if_icmp .eq off, 3)) (ht : (pc : Int) + off = (tgt : Int)) (kt : x = y → (zRT μ kc ks (tgt) lv (st) sh M R)) (kf : ¬ x = y → (zRT μ kc ks (pc + 3) lv (st) sh M R)) : (zRT μ kc ks (pc) lv (.int y :: .int x :: st) sh M R) := by
  intro p l e Rm s m args below meth c H locs cells slots D cy B ls C V hc hs hl
  exact lv_icmp_eq C.1 C.2.1 hd ht (fun z => kt z p l e Rm s m args below meth c H locs cells slots D cy B ls C V hc hs hl) (fun z => kf z p l e Rm s m args below meth c H locs cells slots D cy B ls C V hc hs hl)
theorem zs_icmp_ne {μ : zMI} {kc ks pc : Nat} {lv : List (Nat × Value)} {st : List Value} {sh : List zShp} {M : zMem} {R : zEnd} {x y : Int32} {off : Int} (tgt : Nat) (hd : decode μ.2.1 pc = .ok (.if_icmp .ne off, 3)) (ht : (pc : Int) + off = (tgt : Int)) (kt : ¬ x = y → (zRT μ kc ks (tgt) lv (st) sh M R)) (kf : x = y → (zRT μ kc ks (pc + 3) lv (st) sh M R)) : (zRT μ kc ks (pc) lv (.int y :: .int x :: st) sh M R) := by
  intro p l e Rm s m args below meth c H locs cells slots D cy B ls C V hc hs hl
  exact lv_icmp_ne C.1 C.2.1 hd ht (fun z => kt z p l e Rm s m args below meth c H locs cells slots D cy B ls C V hc hs hl) (fun z => kf z p l e Rm s m args below meth c H locs cells slots D cy B ls C V hc hs hl)
theorem zs_icmp_lt {μ : zMI} {kc ks pc : Nat} {lv : List (Nat × Value)} {st : List Value} {sh : List zShp} {M : zMem} {R : zEnd} {x y : Int32} {off : Int} (tgt : Nat) (hd : decode μ.2.1 pc = .ok (.if_icmp .lt off, 3)) (ht : (pc : Int) + off = (tgt : Int)) (kt : x < y → (zRT μ kc ks (tgt) lv (st) sh M R)) (kf : ¬ x < y → (zRT μ kc ks (pc + 3) lv (st) sh M R)) : (zRT μ kc ks (pc) lv (.int y :: .int x :: st) sh M R) := by
  intro p l e Rm s m args below meth c H locs cells slots D cy B ls C V hc hs hl
  exact lv_icmp_lt C.1 C.2.1 hd ht (fun z => kt z p l e Rm s m args below meth c H locs cells slots D cy B ls C V hc hs hl) (fun z => kf z p l e Rm s m args below meth c H locs cells slots D cy B ls C V hc hs hl)
theorem zs_icmp_ge {μ : zMI} {kc ks pc : Nat} {lv : List (Nat × Value)} {st : List Value} {sh : List zShp} {M : zMem} {R : zEnd} {x y : Int32} {off : Int} (tgt : Nat) (hd : decode μ.2.1 pc = .ok (.if_icmp .ge off, 3)) (ht : (pc : Int) + off = (tgt : Int)) (kt : y ≤ x → (zRT μ kc ks (tgt) lv (st) sh M R)) (kf : ¬ y ≤ x → (zRT μ kc ks (pc + 3) lv (st) sh M R)) : (zRT μ kc ks (pc) lv (.int y :: .int x :: st) sh M R) := by
  intro p l e Rm s m args below meth c H locs cells slots D cy B ls C V hc hs hl
  exact lv_icmp_ge C.1 C.2.1 hd ht (fun z => kt z p l e Rm s m args below meth c H locs cells slots D cy B ls C V hc hs hl) (fun z => kf z p l e Rm s m args below meth c H locs cells slots D cy B ls C V hc hs hl)
theorem zs_icmp_gt {μ : zMI} {kc ks pc : Nat} {lv : List (Nat × Value)} {st : List Value} {sh : List zShp} {M : zMem} {R : zEnd} {x y : Int32} {off : Int} (tgt : Nat) (hd : decode μ.2.1 pc = .ok (.if_icmp .gt off, 3)) (ht : (pc : Int) + off = (tgt : Int)) (kt : y < x → (zRT μ kc ks (tgt) lv (st) sh M R)) (kf : ¬ y < x → (zRT μ kc ks (pc + 3) lv (st) sh M R)) : (zRT μ kc ks (pc) lv (.int y :: .int x :: st) sh M R) := by
  intro p l e Rm s m args below meth c H locs cells slots D cy B ls C V hc hs hl
  exact lv_icmp_gt C.1 C.2.1 hd ht (fun z => kt z p l e Rm s m args below meth c H locs cells slots D cy B ls C V hc hs hl) (fun z => kf z p l e Rm s m args below meth c H locs cells slots D cy B ls C V hc hs hl)
theorem zs_icmp_le {μ : zMI} {kc ks pc : Nat} {lv : List (Nat × Value)} {st : List Value} {sh : List zShp} {M : zMem} {R : zEnd} {x y : Int32} {off : Int} (tgt : Nat) (hd : decode μ.2.1 pc = .ok (.if_icmp .le off, 3)) (ht : (pc : Int) + off = (tgt : Int)) (kt : x ≤ y → (zRT μ kc ks (tgt) lv (st) sh M R)) (kf : ¬ x ≤ y → (zRT μ kc ks (pc + 3) lv (st) sh M R)) : (zRT μ kc ks (pc) lv (.int y :: .int x :: st) sh M R) := by
  intro p l e Rm s m args below meth c H locs cells slots D cy B ls C V hc hs hl
  exact lv_icmp_le C.1 C.2.1 hd ht (fun z => kt z p l e Rm s m args below meth c H locs cells slots D cy B ls C V hc hs hl) (fun z => kf z p l e Rm s m args below meth c H locs cells slots D cy B ls C V hc hs hl)
theorem zs_goto {μ : zMI} {kc ks pc : Nat} {lv : List (Nat × Value)} {st : List Value} {sh : List zShp} {M : zMem} {R : zEnd} {off : Int} (tgt : Nat) (hd : decode μ.2.1 pc = .ok (.goto off, 3)) (ht : (pc : Int) + off = (tgt : Int)) (k : (zRT μ kc ks (tgt) lv (st) sh M R)) : (zRT μ kc ks (pc) lv (st) sh M R) := by
  intro p l e Rm s m args below meth c H locs cells slots D cy B ls C V hc hs hl
  exact lv_goto C.1 C.2.1 hd ht (k p l e Rm s m args below meth c H locs cells slots D cy B ls C V hc hs hl)
theorem zs_ifnonnull {μ : zMI} {kc ks pc : Nat} {lv : List (Nat × Value)} {st : List Value} {sh : List zShp} {M : zMem} {R : zEnd} {x : Nat} {off : Int} (tgt : Nat) (hd : decode μ.2.1 pc = .ok (.ifnonnull off, 3)) (ht : (pc : Int) + off = (tgt : Int)) (k : (zRT μ kc ks (tgt) lv (st) sh M R)) : (zRT μ kc ks (pc) lv (.ref x :: st) sh M R) := by
  intro p l e Rm s m args below meth c H locs cells slots D cy B ls C V hc hs hl
  exact lv_ifnonnull C.1 C.2.1 hd ht (k p l e Rm s m args below meth c H locs cells slots D cy B ls C V hc hs hl)
theorem zs_ifnonnullN {μ : zMI} {kc ks pc : Nat} {lv : List (Nat × Value)} {st : List Value} {sh : List zShp} {M : zMem} {R : zEnd} {off : Int} (hd : decode μ.2.1 pc = .ok (.ifnonnull off, 3)) (k : (zRT μ kc ks (pc + 3) lv (st) sh M R)) : (zRT μ kc ks (pc) lv (.null :: st) sh M R) := by
  intro p l e Rm s m args below meth c H locs cells slots D cy B ls C V hc hs hl
  exact lv_ifnonnullN C.1 C.2.1 hd (k p l e Rm s m args below meth c H locs cells slots D cy B ls C V hc hs hl)
theorem zs_tableIn {μ : zMI} {kc ks pc : Nat} {lv : List (Nat × Value)} {st : List Value} {sh : List zShp} {M : zMem} {R : zEnd} {dflt lo hi : Int} {offs : Array Int} {len : Nat} {x : Int32} {off : Int} (tgt : Nat) (hd : decode μ.2.1 pc = .ok (.tableswitch dflt lo hi offs, len)) (h1 : ¬ x.toInt < lo) (h2 : ¬ hi < x.toInt) (ho : offs[(x.toInt - lo).toNat]? = some off) (ht : (pc : Int) + off = (tgt : Int)) (k : (zRT μ kc ks (tgt) lv (st) sh M R)) : (zRT μ kc ks (pc) lv (.int x :: st) sh M R) := by
  intro p l e Rm s m args below meth c H locs cells slots D cy B ls C V hc hs hl
  exact lv_tableIn C.1 C.2.1 hd h1 h2 ho ht (k p l e Rm s m args below meth c H locs cells slots D cy B ls C V hc hs hl)
theorem zs_tableOut {μ : zMI} {kc ks pc : Nat} {lv : List (Nat × Value)} {st : List Value} {sh : List zShp} {M : zMem} {R : zEnd} {dflt lo hi : Int} {offs : Array Int} {len : Nat} {x : Int32} (tgt : Nat) (hd : decode μ.2.1 pc = .ok (.tableswitch dflt lo hi offs, len)) (h : x.toInt < lo ∨ hi < x.toInt) (ht : (pc : Int) + dflt = (tgt : Int)) (k : (zRT μ kc ks (tgt) lv (st) sh M R)) : (zRT μ kc ks (pc) lv (.int x :: st) sh M R) := by
  intro p l e Rm s m args below meth c H locs cells slots D cy B ls C V hc hs hl
  exact lv_tableOut C.1 C.2.1 hd h ht (k p l e Rm s m args below meth c H locs cells slots D cy B ls C V hc hs hl)
theorem zs_lookup {μ : zMI} {kc ks pc : Nat} {lv : List (Nat × Value)} {st : List Value} {sh : List zShp} {M : zMem} {R : zEnd} {dflt : Int} {ps : Array (Int × Int)} {len : Nat} {x : Int32} {off : Int} (tgt : Nat) (hd : decode μ.2.1 pc = .ok (.lookupswitch dflt ps, len)) (hp : (ps.toList.zip (ps.toList.drop 1)).all (fun (a, next) => a.1 < next.1) = true) (ho : Op.lookupswitch.offset ps.toList dflt x.toInt = off) (ht : (pc : Int) + off = (tgt : Int)) (k : (zRT μ kc ks (tgt) lv (st) sh M R)) : (zRT μ kc ks (pc) lv (.int x :: st) sh M R) := by
  intro p l e Rm s m args below meth c H locs cells slots D cy B ls C V hc hs hl
  exact lv_lookup C.1 C.2.1 hd hp ho ht (k p l e Rm s m args below meth c H locs cells slots D cy B ls C V hc hs hl)
theorem zs_ldc {μ : zMI} {kc ks pc : Nat} {lv : List (Nat × Value)} {st : List Value} {sh : List zShp} {M : zMem} {R : zEnd} {ix : Nat} {v : Int32} (hd : decode μ.2.1 pc = .ok (.ldc ix, 2)) (hw : Cond.constant μ.1.cls ix v ∈ zgt) (k : (zRT μ kc ks (pc + 2) lv (.int v :: st) sh M R)) : (zRT μ kc ks (pc) lv (st) sh M R) := by
  intro p l e Rm s m args below meth c H locs cells slots D cy B ls C V hc hs hl
  exact lv_ldc C.1 C.2.1 C.2.2.2.2.1 (C.2.2.2.2.2.1 _ hw) hd (k p l e Rm s m args below meth c H locs cells slots D cy B ls C V hc hs hl)
theorem zs_ldcw {μ : zMI} {kc ks pc : Nat} {lv : List (Nat × Value)} {st : List Value} {sh : List zShp} {M : zMem} {R : zEnd} {ix : Nat} {v : Int32} (hd : decode μ.2.1 pc = .ok (.ldc_w ix, 3)) (hw : Cond.constant μ.1.cls ix v ∈ zgt) (k : (zRT μ kc ks (pc + 3) lv (.int v :: st) sh M R)) : (zRT μ kc ks (pc) lv (st) sh M R) := by
  intro p l e Rm s m args below meth c H locs cells slots D cy B ls C V hc hs hl
  exact lv_ldcw C.1 C.2.1 C.2.2.2.2.1 (C.2.2.2.2.2.1 _ hw) hd (k p l e Rm s m args below meth c H locs cells slots D cy B ls C V hc hs hl)
theorem zs_ldc2 {μ : zMI} {kc ks pc : Nat} {lv : List (Nat × Value)} {st : List Value} {sh : List zShp} {M : zMem} {R : zEnd} {ix : Nat} {v : Int64} (hd : decode μ.2.1 pc = .ok (.ldc2_w ix, 3)) (hw : Cond.constantLong μ.1.cls ix v ∈ zgt) (k : (zRT μ kc ks (pc + 3) lv (.long v :: st) sh M R)) : (zRT μ kc ks (pc) lv (st) sh M R) := by
  intro p l e Rm s m args below meth c H locs cells slots D cy B ls C V hc hs hl
  exact lv_ldc2 C.1 C.2.1 C.2.2.2.2.1 (C.2.2.2.2.2.1 _ hw) hd (k p l e Rm s m args below meth c H locs cells slots D cy B ls C V hc hs hl)
/-- the entry ix of the class own is the field k of the class ci of zCL -/
def zGF (own : String) (ix ci k : Nat) : Prop := ∃ (C : String) (T : u_T) (N : Nat), zCL[ci]? = some (C, T, N) ∧ (∀ w ∈ u_ws C T N, w ∈ zgt) ∧ k < N ∧ Cond.fieldLink own ix (T k).1 (T k).2.1 (T k).2.2.1 ∈ zgt
def zPF (own : String) (ix ci k : Nat) (fin : Bool) (ty : FieldType) : Prop := ∃ (C : String) (T : u_T) (N : Nat) (t : Nat → FieldType), zCL[ci]? = some (C, T, N) ∧ (∀ w ∈ u_ws C T N, w ∈ zgt) ∧ k < N ∧ Cond.fieldLink own ix (T k).1 (T k).2.1 (T k).2.2.1 ∈ zgt ∧ (∀ k, k < N → parseFieldDescriptor (T k).2.2.1 = some (t k)) ∧ (∀ a, a < N → ∀ b, b < N → a ≠ b → (T a).2.1 ≠ (T b).2.1) ∧ (T k).2.2.2 = fin ∧ parseFieldDescriptor (T k).2.2.1 = some ty ∧ (T k).1 = own
theorem zs_get {μ : zMI} {kc ks pc : Nat} {lv : List (Nat × Value)} {st : List Value} {sh : List zShp} {M : zMem} {R : zEnd} {ix ci f o : Nat} {fs : List (Option (Option Nat))} {x : Option (Option Nat)} (hd : decode μ.2.1 pc = .ok (.getfield ix, 3)) (F : zGF μ.1.cls ix ci f) (ho : sh[o]? = some (.inr (.inl (ci, fs)))) (hf : fs[f]? = some x) (k : (zRT μ kc ks (pc + 3) lv (zfv (M o) f x :: st) sh M R)) : (zRT μ kc ks (pc) lv (.ref o :: st) sh M R) := by
  intro p l e Rm s m args below meth c H locs cells slots D cy B ls C V hc hs hl
  obtain ⟨Cn, T, N, h1, h2, h3, h4⟩ := F
  exact va_get (D := D) (cl := zCL) (tys := zTY cy) (ws := zw cy B sh M) (fs := fs.mapIdx (fun j x => zv B (zfv (M o) j x))) C.1 C.2.1 C.2.2.2.2.2.1 h2 C.2.2.2.2.1 V.1 V.2.1 o (zw_at ho) h1 f h3 (C.2.2.2.2.2.1 _ h4) (fun _ h9 => h9) (by simp [List.getElem?_mapIdx, hf]) hd (k p l e Rm s m args below meth c H locs cells slots D cy B ls C V hc hs hl)
theorem zW_size {p : Program} {l : Launch} {e : Env} {R : Room} {s : State} {m : MethodId} {args : Array Value} {below : List Frame} {meth : Method} {c : Code} {H : Heap} {locs : List Loc} {cells slots : Nat} {Q : State → Prop} {g : JFrame} (k : H.size ≤ s.heap.size + cells → W p l e R s m args below meth c H locs cells slots Q g) : W p l e R s m args below meth c H locs cells slots Q g := by
  intro T hT X
  have h := X.heapSize
  rw [hT] at h
  exact k h T hT X
theorem zS_self {A : Nat → Prop} {H0 H : Heap} {locs : List Loc} (h : va_S A H0 H locs) : va_S A H H locs := ⟨Nat.le_refl _, fun _ _ _ => rfl, h.2.2⟩
theorem zS_trans {A : Nat → Prop} {H0 H H1 : Heap} {locs locs1 : List Loc} (h : va_S A H0 H locs) (h1 : va_S A H H1 locs1) : va_S A H0 H1 locs1 := ⟨Nat.le_trans h.1 h1.1, fun q a b => (h1.2.1 q (Nat.lt_of_lt_of_le a h.1) b).trans (h.2.1 q a b), h1.2.2⟩
/-- a write: the cells stay as many -/
theorem zWd_write {D : va_G} {cy : zCy} {B : Nat} {s : State} {H H1 : Heap} {locs locs1 : List Loc} {cells : Nat} {sh sh1 : List zShp} {M M1 : zMem} (V : zWd D cy B s H locs cells sh M) (hP : va_P D zCL (zw cy B sh1 M1) H1) (hS : va_S (fun q => B ≤ q) H H1 locs1) (hz : H1.size ≤ s.heap.size + cells) (hl : sh1.length = sh.length) : zWd D cy B s H1 locs1 cells sh1 M1 := by
  obtain ⟨v1, v2, v3, v4, v5, v6⟩ := V
  have h1 := hS.1
  exact ⟨v1, hP, by omega, by omega, zS_trans v5 hS, v6⟩
theorem zs_put {μ : zMI} {kc ks pc : Nat} {lv : List (Nat × Value)} {st : List Value} {sh : List zShp} {M : zMem} {R : zEnd} {ix ci f o : Nat} {fs : List (Option (Option Nat))} {v : Int32} {ty : FieldType} (hd : decode μ.2.1 pc = .ok (.putfield ix, 3)) (F : zPF μ.1.cls ix ci f false ty) (ho : sh[o]? = some (.inr (.inl (ci, fs)))) (hf : fs[f]? = some none) (hn : narrow ty (.int v) = .int v) (hfit : fits ty (.int v) = true) (k : (zRT μ kc ks (pc + 3) lv (st) sh (zms M o f v) R)) : (zRT μ kc ks (pc) lv (.int v :: .ref o :: st) sh M R) := by
  intro p l e Rm s m args below meth c H locs cells slots D cy B ls C V hc hs hl
  obtain ⟨Cn, T, N, t, h1, h2, h3, h4, h5, h6, h7, h8, -⟩ := F
  have hl0 : f < fs.length := (List.getElem?_eq_some_iff.mp hf).1
  refine va_put (D := D) (cl := zCL) (tys := zTY cy) (ws := zw cy B sh M) (fs := fs.mapIdx (fun j x => zv B (zfv (M o) j x))) C.1 C.2.1 C.2.2.2.2.2.1 h2 t h5 h6 C.2.2.2.2.1 V.1 V.2.1 (zw_D cy B sh M) (zS_self V.2.2.2.2.1) o (zw_at ho) h1 f h3 (C.2.2.2.2.2.1 _ h4) (fun _ h9 => h9) h7 h8 hn hfit (by simp; exact hl0) hd (fun H1 locs1 hP hD hS => ?_)
  have he : zw cy B sh (zms M o f v) = (zw cy B sh M).set o (B + o, .inr (ci, (fs.mapIdx (fun j x => zv B (zfv (M o) j x))).set f (.int v))) := by
    rw [zw_same ho (zms_ne M o f v), zms_row, ← zc_fs hf]
    rfl
  have hP : va_P D zCL (zw cy B sh (zms M o f v)) H1 := by rw [he]; exact hP
  exact zW_size (fun hz => k p l e Rm s m args below meth c H1 locs1 cells slots D cy B ls C (zWd_write V hP hS hz rfl) hc hs hl)
theorem zs_putR {μ : zMI} {kc ks pc : Nat} {lv : List (Nat × Value)} {st : List Value} {sh : List zShp} {M : zMem} {R : zEnd} {ix ci f o r : Nat} {fs : List (Option (Option Nat))} {ty : FieldType} (hd : decode μ.2.1 pc = .ok (.putfield ix, 3)) (F : zPF μ.1.cls ix ci f true ty) (ho : sh[o]? = some (.inr (.inl (ci, fs)))) (hf : f < fs.length) (hi : μ.1.name = "<init>") (hn : ∀ a : Nat, narrow ty (.ref a) = .ref a) (hfit : ∀ a : Nat, fits ty (.ref a) = true) (k : (zRT μ kc ks (pc + 3) lv (st) (sh.set o (.inr (.inl (ci, fs.set f (some (some r)))))) M R)) : (zRT μ kc ks (pc) lv (.ref r :: .ref o :: st) sh M R) := by
  intro p l e Rm s m args below meth c H locs cells slots D cy B ls C V hc hs hl
  obtain ⟨Cn, T, N, t, h1, h2, h3, h4, h5, h6, h7, h8, h9⟩ := F
  refine va_putF (D := D) (cl := zCL) (tys := zTY cy) (ws := zw cy B sh M) (fs := fs.mapIdx (fun j x => zv B (zfv (M o) j x))) C.1 C.2.1 C.2.2.2.2.2.1 h2 t h5 h6 C.2.2.2.2.1 V.1 V.2.1 (zw_D cy B sh M) (zS_self V.2.2.2.2.1) o (zw_at ho) h1 f h3 (C.2.2.2.2.2.1 _ h4) (fun _ h9 => h9) h7 (C.2.2.2.2.2.2.2.1.trans hi) h9 h8 (hn _) (hfit _) (by simp; exact hf) hd (fun H1 locs1 hP hD hS => ?_)
  have he : zw cy B (sh.set o (.inr (.inl (ci, fs.set f (some (some r)))))) M = (zw cy B sh M).set o (B + o, .inr (ci, (fs.mapIdx (fun j x => zv B (zfv (M o) j x))).set f (.ref (B + r)))) := by
    rw [zw_set ho (fun _ _ => rfl)]
    show _ = (zw cy B sh M).set o (B + o, Sum.inr (ci, (fs.mapIdx (fun j x => zv B (zfv (M o) j x))).set f (zv B (va_rf (some r)))))
    rw [← zc_fr (some r) hf]
    rfl
  have hP : va_P D zCL (zw cy B (sh.set o (.inr (.inl (ci, fs.set f (some (some r)))))) M) H1 := by rw [he]; exact hP
  exact zW_size (fun hz => k p l e Rm s m args below meth c H1 locs1 cells slots D cy B ls C (zWd_write V hP hS hz (by simp)) hc hs hl)
theorem zs_iald {μ : zMI} {kc ks pc : Nat} {lv : List (Nat × Value)} {st : List Value} {sh : List zShp} {M : zMem} {R : zEnd} {o n : Nat} {i : Int32} (hd : decode μ.2.1 pc = .ok (.iaload, 1)) (ho : sh[o]? = some (.inl (0, n))) (hin : vp_in i n) (k : (zRT μ kc ks (pc + 1) lv (.int (M o i.toNatClampNeg) :: st) sh M R)) : (zRT μ kc ks (pc) lv (.int i :: .ref o :: st) sh M R) := by
  intro p l e Rm s m args below meth c H locs cells slots D cy B ls C V hc hs hl
  exact va_iald (D := D) (cl := zCL) (tys := zTY cy) (ws := zw cy B sh M) C.1 C.2.1 V.1 V.2.1 o 0 (zw_at ho) rfl hin hd (k p l e Rm s m args below meth c H locs cells slots D cy B ls C V hc hs hl)
theorem zs_zald {μ : zMI} {kc ks pc : Nat} {lv : List (Nat × Value)} {st : List Value} {sh : List zShp} {M : zMem} {R : zEnd} {o n : Nat} {i : Int32} (hd : decode μ.2.1 pc = .ok (.baload, 1)) (ho : sh[o]? = some (.inl (1, n))) (hin : vp_in i n) (k : (zRT μ kc ks (pc + 1) lv (.int (M o i.toNatClampNeg) :: st) sh M R)) : (zRT μ kc ks (pc) lv (.int i :: .ref o :: st) sh M R) := by
  intro p l e Rm s m args below meth c H locs cells slots D cy B ls C V hc hs hl
  exact va_zald (D := D) (cl := zCL) (tys := zTY cy) (ws := zw cy B sh M) C.1 C.2.1 V.1 V.2.1 o 1 (zw_at ho) rfl hin hd (k p l e Rm s m args below meth c H locs cells slots D cy B ls C V hc hs hl)
theorem zs_aald {μ : zMI} {kc ks pc : Nat} {lv : List (Nat × Value)} {st : List Value} {sh : List zShp} {M : zMem} {R : zEnd} {o n : Nat} {g : Nat → Option Nat} {i : Int32} (hd : decode μ.2.1 pc = .ok (.aaload, 1)) (ho : sh[o]? = some (.inr (.inr (n, g)))) (hin : vp_in i n) (k : (zRT μ kc ks (pc + 1) lv (va_rf (g i.toNatClampNeg) :: st) sh M R)) : (zRT μ kc ks (pc) lv (.int i :: .ref o :: st) sh M R) := by
  intro p l e Rm s m args below meth c H locs cells slots D cy B ls C V hc hs hl
  have k := k p l e Rm s m args below meth c H locs cells slots D cy B ls C V hc hs hl
  rw [List.map_cons, zv_rf] at k
  exact va_aldq (D := D) (cl := zCL) (tys := zTY cy) (ws := zw cy B sh M) C.1 C.2.1 V.1 V.2.1 o 2 (zw_at ho) rfl hin hd k
theorem zs_iast {μ : zMI} {kc ks pc : Nat} {lv : List (Nat × Value)} {st : List Value} {sh : List zShp} {M : zMem} {R : zEnd} {o n : Nat} {i x : Int32} (hd : decode μ.2.1 pc = .ok (.iastore, 1)) (ho : sh[o]? = some (.inl (0, n))) (hin : vp_in i n) (k : (zRT μ kc ks (pc + 1) lv (st) sh (zms M o i.toNatClampNeg x) R)) : (zRT μ kc ks (pc) lv (.int x :: .int i :: .ref o :: st) sh M R) := by
  intro p l e Rm s m args below meth c H locs cells slots D cy B ls C V hc hs hl
  refine va_iast (D := D) (cl := zCL) (tys := zTY cy) (ws := zw cy B sh M) C.1 C.2.1 V.1 V.2.1 (zw_D cy B sh M) (zS_self V.2.2.2.2.1) o 0 (zw_at ho) rfl hin hd (fun H1 locs1 hP hD hS => ?_)
  have hP : va_P D zCL (zw cy B sh (zms M o i.toNatClampNeg x)) H1 := by rw [zw_same ho (zms_ne M o _ x), zms_row]; exact hP
  exact zW_size (fun hz => k p l e Rm s m args below meth c H1 locs1 cells slots D cy B ls C (zWd_write V hP hS hz rfl) hc hs hl)
theorem zs_zast {μ : zMI} {kc ks pc : Nat} {lv : List (Nat × Value)} {st : List Value} {sh : List zShp} {M : zMem} {R : zEnd} {o n : Nat} {i x : Int32} (hd : decode μ.2.1 pc = .ok (.bastore, 1)) (ho : sh[o]? = some (.inl (1, n))) (hin : vp_in i n) (hx : vp_nar .boolean x = x) (k : (zRT μ kc ks (pc + 1) lv (st) sh (zms M o i.toNatClampNeg x) R)) : (zRT μ kc ks (pc) lv (.int x :: .int i :: .ref o :: st) sh M R) := by
  intro p l e Rm s m args below meth c H locs cells slots D cy B ls C V hc hs hl
  refine va_zast (D := D) (cl := zCL) (tys := zTY cy) (ws := zw cy B sh M) C.1 C.2.1 V.1 V.2.1 (zw_D cy B sh M) (zS_self V.2.2.2.2.1) o 1 (zw_at ho) rfl hin hd (fun H1 locs1 hP hD hS => ?_)
  rw [hx] at hP
  have hP : va_P D zCL (zw cy B sh (zms M o i.toNatClampNeg x)) H1 := by rw [zw_same ho (zms_ne M o _ x), zms_row]; exact hP
  exact zW_size (fun hz => k p l e Rm s m args below meth c H1 locs1 cells slots D cy B ls C (zWd_write V hP hS hz rfl) hc hs hl)
theorem zs_aast {μ : zMI} {kc ks pc : Nat} {lv : List (Nat × Value)} {st : List Value} {sh : List zShp} {M : zMem} {R : zEnd} {o n r : Nat} {g : Nat → Option Nat} {i : Int32} {fs : List (Option (Option Nat))} (hd : decode μ.2.1 pc = .ok (.aastore, 1)) (ho : sh[o]? = some (.inr (.inr (n, g)))) (hr : sh[r]? = some (.inr (.inl (7, fs)))) (hin : vp_in i n) (k : (zRT μ kc ks (pc + 1) lv (st) (sh.set o (.inr (.inr (n, va_up g i.toNatClampNeg (some r))))) M R)) : (zRT μ kc ks (pc) lv (.ref r :: .int i :: .ref o :: st) sh M R) := by
  intro p l e Rm s m args below meth c H locs cells slots D cy B ls C V hc hs hl
  refine va_astq (D := D) (cl := zCL) (tys := zTY cy) (ws := zw cy B sh M) C.1 C.2.1 V.1 V.2.1 (zw_D cy B sh M) (zS_self V.2.2.2.2.1) o 2 r 7 (r := ("OthersHands$Town", zT_Town, 9)) (zw_at ho) rfl (zw_at hr) rfl hin hd (fun H1 locs1 hP hD hS => ?_)
  have he : (fun j => (va_up g i.toNatClampNeg (some r) j).map (B + ·)) = va_up (fun j => (g j).map (B + ·)) i.toNatClampNeg (some (B + r)) := by
    funext j
    by_cases hj : j = i.toNatClampNeg
    · subst hj; simp [va_up]
    · simp [va_up, hj]
  have hP : va_P D zCL (zw cy B (sh.set o (.inr (.inr (n, va_up g i.toNatClampNeg (some r))))) M) H1 := by
    rw [zw_set ho (fun _ _ => rfl)]
    show va_P D zCL ((zw cy B sh M).set o (B + o, Sum.inl (cy.2.2, n, .inr (.inr (.inr (.inr (fun j => (va_up g i.toNatClampNeg (some r) j).map (B + ·)))))))) H1
    rw [he]
    exact hP
  exact zW_size (fun hz => k p l e Rm s m args below meth c H1 locs1 cells slots D cy B ls C (zWd_write V hP hS hz (by simp)) hc hs hl)
theorem zs_copy {μ : zMI} {kc ks pc : Nat} {lv : List (Nat × Value)} {st : List Value} {sh : List zShp} {M : zMem} {R : zEnd} {ix o q n0 n1 : Nat} {sp dp n : Int32} (hd : decode μ.2.1 pc = .ok (.invokestatic ix, 3)) (hw : Cond.methodLink μ.1.cls ix arraycopyName ∈ zgt) (hr : 1 ≤ μ.2.2.2.2.1 ∧ (st.map fun v => v.category).sum + (nativeFrameWords "java/lang/System" "arraycopy" 5 + 11) ≤ μ.2.2.2.2.2) (ho : sh[o]? = some (.inl (0, n0))) (hq : sh[q]? = some (.inl (0, n1))) (h1 : ¬ sp < 0) (h2 : ¬ dp < 0) (h3 : ¬ n < 0) (h4 : sp.toNatClampNeg + n.toNatClampNeg ≤ n0) (h5 : dp.toNatClampNeg + n.toNatClampNeg ≤ n1) (k : (zRT μ kc ks (pc + 3) lv (st) sh (zmr M q (va_cpy (M o) (M q) sp.toNatClampNeg dp.toNatClampNeg n.toNatClampNeg)) R)) : (zRT μ kc ks (pc) lv (.int n :: .int dp :: .ref q :: .int sp :: .ref o :: st) sh M R) := by
  intro p l e Rm s m args below meth c H locs cells slots D cy B ls C V hc hs hl
  have hcat : ((st.map (zv B)).map fun v => v.category) = st.map fun v => v.category := by simp [Function.comp_def, zv_cat]
  refine va_copyi (D := D) (cl := zCL) (tys := zTY cy) (ws := zw cy B sh M) (ty := .int) C.1 C.2.1 (C.2.2.2.1.trans hl.1.symm) C.2.2.2.2.1 (C.2.2.2.2.2.1 _ hw) (C.2.2.2.2.2.1 _ (by decide +kernel)) (C.2.2.2.2.2.1 _ (by decide +kernel)) (C.2.2.2.2.2.1 _ (by decide +kernel)) V.1 V.2.1 (zw_D cy B sh M) (zS_self V.2.2.2.2.1) o q 0 0 (zw_at ho) (zw_at hq) rfl rfl rfl h1 h2 h3 h4 h5 (fun _ _ => rfl) (Nat.le_trans hr.1 C.2.2.2.2.2.2.2.2.1) (by rw [hcat]; exact Nat.le_trans hr.2 C.2.2.2.2.2.2.2.2.2.1) hd (fun H1 locs1 hP hD hS => ?_)
  have hP : va_P D zCL (zw cy B sh (zmr M q (va_cpy (M o) (M q) sp.toNatClampNeg dp.toNatClampNeg n.toNatClampNeg))) H1 := by rw [zw_same hq (zmr_ne M q _), zmr_row]; exact hP
  exact zW_size (fun hz => k p l e Rm s m args below meth c H1 locs1 cells slots D cy B ls C (zWd_write V hP hS hz rfl) hc hs hl)
end
section
/-! NEW CELLS, CALLS, RETURNS -/
theorem zN_warm {s U : State} (hW : s.WarmedH U.vm) (h : zNx s) : zNx U := by
  refine ⟨fun w hw => ?_, va_AO.moved hW.alike h.2⟩
  have h1 := h.1 w hw
  have h2 : zisN w = true := (List.mem_filter.mp hw).2
  cases w <;> first | exact va_Nw.warmM hW h1 | (simp [zisN] at h2)
theorem zN_vm {s U : State} (hv : s.vm = U.vm) (h : zNx s) : zNx U := by
  refine ⟨fun w hw => ?_, va_AO.moved (by rw [hv]; exact Vm.Alike.refl U.vm) h.2⟩
  have h1 := h.1 w hw
  have h2 : zisN w = true := (List.mem_filter.mp hw).2
  cases w <;> first | exact va_tabs rfl hv h1 | (simp [zisN] at h2)
theorem zG : GoodIn zgt zgt := fun w hw => ⟨hw, good_of_word (List.mem_filter.mp hw).2⟩
theorem zPre_blind (D : va_G) (cy : zCy) (B : Nat) (as : List Value) (sh : List zShp) (M : zMem) : FrameBlind (zPre D cy B as sh M) := by
  intro a U g mk q
  obtain ⟨q0, qK, qP, qz, qN⟩ := q
  exact ⟨q0, va_K.moved (u := U) (U := U.calling g mk a) (Vm.Alike.refl U.vm) qK, qP, qz, zN_vm (s := U) (U := U.calling g mk a) rfl qN⟩
section zCall
variable {p : Program} {l : Launch} {e : Env} {Rm : Room} {s : State} {m : MethodId} {args : Array Value} {below : List Frame} {meth : Method} {c : Code} {H : Heap} {locs : List Loc} {cells slots : Nat} {Q : State → Prop}
variable {D : va_G} {cy : zCy} {B : Nat} {ls : Array Slot} {sh : List zShp} {M : zMem}
theorem zPre_at {as : List Value} (hN : zNx s) (V : zWd D cy B s H locs cells sh M) : ∀ U : State, U.heap = H → s.WarmedH U.vm → zPre D cy B as sh M (as.map (zv B)).toArray U := by
  intro U hU hW
  exact ⟨rfl, va_K.moved hW.alike V.1, by rw [hU]; exact V.2.1, by rw [hU]; exact V.2.2.1, zN_warm hW hN⟩
/-- behind a call -/
theorem zW_cont {pc kc ks : Nat} {st0 rest : List Value} {R0 : zEnd} {a : Array Value} (hr : va_Run p l e Rm s m args below meth c H locs cells slots kc ks (F0 m pc ls st0) rest (zQC D cy B kc R0 a) (fun q => B ≤ q)) (V : zWd D cy B s H locs cells sh M)
    (kk : ∀ (v : Option Value) (sh1 : List zShp) (M1 : zMem) (H1 : Heap) (locs1 : List Loc), R0 v sh1 M1 → zWd D cy B s H1 locs1 (cells + kc) sh1 M1 → W p l e Rm s m args below meth c H1 locs1 (cells + kc) (slots + ks) Q (F0 m (pc + 3) ls ((v.map (zv B)).toList ++ rest))) : W p l e Rm s m args below meth c H locs cells slots Q (F0 m pc ls st0) := by
  intro T hT X
  obtain ⟨v, st₀, t, T', L, h0, X', hL, e1, e2, ⟨⟨w, sh1, M1, hv, hR, hK, hP, hz⟩, ⟨hF1, hF2⟩, hk⟩, st⟩ := hr T hT X
  obtain ⟨v1, v2, v3, v4, v5, v6⟩ := V
  cases hv
  rw [h0] at hF1 hF2 hk
  have hV : zWd D cy B s T'.heap (locs ++ L) (cells + kc) sh1 M1 := by
    refine ⟨v1, by rw [e1]; exact hP, by rw [e1]; exact hz, by rw [e1]; omega, ⟨Nat.le_trans v5.1 (by rw [e1]; exact hF1), fun q a1 a2 => ?_, fun q hq => ?_⟩, v6⟩
    · rw [e1, hF2 q (Nat.lt_of_lt_of_le a1 v5.1) a2]
      exact v5.2.1 q a1 a2
    · rcases List.mem_append.mp hq with h | h
      · exact v5.2.2 q h
      · exact hL q h
  obtain ⟨t2, a1, b1⟩ := kk w sh1 M1 T'.heap (locs ++ L) hR hV T' rfl X'
  exact ⟨t2, st t2 a1, b1⟩
end zCall
/-- how the entry ix of the class own comes to the method μ -/
def zCd (μ : zMI) : Prop := Cond.code μ.1 μ.2.1 μ.2.2.1 μ.2.2.2.1 ∈ zgt ∧ Cond.initialized μ.1.cls ∈ zgt ∧ (μ.1.cls ≠ "java/lang/invoke/MethodHandle" ∧ μ.1.cls ≠ "java/lang/invoke/VarHandle")
def zLV (own : String) (ix : Nat) (μ : zMI) (n : Nat) : Prop := zCd μ ∧ (parseMethodDescriptor μ.1.desc).map (fun d => d.parameters.length) = some n ∧ Cond.methodLink own ix μ.1 ∈ zgt ∧ Cond.instanceMethod μ.1 ∈ zgt ∧ Cond.selects μ.1.cls μ.1 μ.1 ∈ zgt
def zLVN (own host : String) (ix : Nat) (μ : zMI) (n : Nat) : Prop := zCd μ ∧ (parseMethodDescriptor μ.1.desc).map (fun d => d.parameters.length) = some n ∧ Cond.methodLinkNest own ix μ.1 host ∈ zns ∧ Cond.instanceMethod μ.1 ∈ zgt ∧ Cond.selects μ.1.cls μ.1 μ.1 ∈ zgt
def zLS (own : String) (ix : Nat) (μ : zMI) (n : Nat) : Prop := zCd μ ∧ (parseMethodDescriptor μ.1.desc).map (fun d => d.parameters.length) = some n ∧ Cond.methodLink own ix μ.1 ∈ zgt ∧ Cond.static μ.1 ∈ zgt
def zLSN (own host : String) (ix : Nat) (μ : zMI) (n : Nat) : Prop := zCd μ ∧ (parseMethodDescriptor μ.1.desc).map (fun d => d.parameters.length) = some n ∧ Cond.methodLinkNest own ix μ.1 host ∈ zns ∧ Cond.static μ.1 ∈ zgt
def zLI (own : String) (ix : Nat) (μ : zMI) (n : Nat) : Prop := zCd μ ∧ (parseMethodDescriptor μ.1.desc).map (fun d => d.parameters.length) = some n ∧ Cond.methodLink own ix μ.1 ∈ zgt ∧ Cond.instanceMethod μ.1 ∈ zgt ∧ μ.1.name = "<init>" ∧ μ.2.2.2.1 = none
def zLIN (own host : String) (ix : Nat) (μ : zMI) (n : Nat) : Prop := zCd μ ∧ (parseMethodDescriptor μ.1.desc).map (fun d => d.parameters.length) = some n ∧ Cond.methodLinkNest own ix μ.1 host ∈ zns ∧ Cond.instanceMethod μ.1 ∈ zgt ∧ μ.1.name = "<init>" ∧ μ.2.2.2.1 = none
theorem zgood_code {μ : zMI} (h : zCd μ) : GoodIn zgt (zws μ) := fun w hw => by
  rcases List.mem_cons.mp hw with rfl | h1
  · exact zG _ h.1
  · exact zG _ h1
/-- room for a call of ν out of μ -/
def zRo (μ ν : zMI) : Prop := ν.2.2.2.2.1 + 1 ≤ μ.2.2.2.2.1 ∧ 8 + (ν.2.2.1 + 11) + ν.2.2.2.2.2 ≤ μ.2.2.2.2.2
section zCall2
variable {p : Program} {l : Launch} {e : Env} {Rm : Room} {s : State} {m : MethodId} {args : Array Value} {below : List Frame} {meth : Method} {c : Code} {H : Heap} {locs : List Loc} {cells slots : Nat} {Q : State → Prop}
variable {D : va_G} {cy : zCy} {B : Nat} {ls : Array Slot} {sh : List zShp} {M : zMem} {cc : ByteArray} {nL pc kc ks ix n : Nat} {own host : String} {ν : zMI} {R0 : zEnd} {rest : List Value}
theorem zcall_hR (hfr : ν.2.2.2.2.1 + 1 ≤ Rm.frames) (hlo : 8 + (ν.2.2.1 + 11) + ν.2.2.2.2.2 ≤ Rm.locals) : ({ frames := ν.2.2.2.2.1, cells := kc, slots := ks, locals := ν.2.2.2.2.2 } : Room).frames + 1 ≤ Rm.frames ∧ 8 + (ν.2.2.1 + 11) + ({ frames := ν.2.2.2.2.1, cells := kc, slots := ks, locals := ν.2.2.2.2.2 } : Room).locals ≤ Rm.locals := ⟨hfr, hlo⟩
theorem zrun_V {o ci : Nat} {fs : List (Option (Option Nat))} {as : List Value} (S : CallFix p m c cc nL s args zgt own) (hN : zNx s) (V : zWd D cy B s H locs cells sh M) (hE : zEx ν kc ks (.ref o :: as) sh M R0) (L : zLV own ix ν n) (ho : sh[o]? = some (.inr (.inl (ci, fs)))) {T : u_T} {N : Nat} (hc : zCL[ci]? = some (ν.1.cls, T, N))
    (hfr : ν.2.2.2.2.1 + 1 ≤ Rm.frames) (hlo : 8 + (ν.2.2.1 + 11) + ν.2.2.2.2.2 ≤ Rm.locals) (hn : as.length = n) (hsize : ls.size = nL) (hW : (rest.map fun v => v.category).sum ≤ 8) (hdg : decode cc pc = .ok (.invokevirtual ix, 3)) (hf : cells + kc ≤ Rm.cells ∧ slots + ks ≤ Rm.slots) :
    va_Run p l e Rm s m args below meth c H locs cells slots kc ks (F0 m pc ls ((as.map (zv B)).reverse ++ .ref (B + o) :: rest)) rest (zQC D cy B kc R0 (((Value.ref o :: as).map (zv B)).toArray)) (fun q => B ≤ q) := by
  obtain ⟨hcd, hd, h1, h2, h3⟩ := L
  have hG : GoodIn zgt (wsV own ix ν.1.cls ν.1 (zws ν)) := fun w hw => by
    unfold wsV at hw
    rcases List.mem_append.mp hw with q | q
    · simp only [List.mem_cons, List.not_mem_nil, or_false] at q
      rcases q with rfl | rfl | rfl | rfl
      · exact zG _ h1
      · exact zG _ h2
      · exact zG _ h3
      · exact zG _ hcd.2.1
    · exact zgood_code hcd w q
  exact va_runV (As := as.map (zv B)) (rest := rest) (g := F0 m pc ls ((as.map (zv B)).reverse ++ .ref (B + o) :: rest)) S (hE l D cy B) (cwV n S.2.2.2.2 hG rfl rfl rfl ⟨rfl, hcd.2.2.1, hcd.2.2.2, hd⟩ (zcall_hR hfr hlo)) ⟨zPre_blind D cy B _ sh M, va_recv V.1 V.2.1 (ci := ci) (q0 := o) hc (zw_at ho), zPre_at (as := .ref o :: as) hN V⟩ rfl (by simp; exact hn) hsize rfl (lv_room hW) hdg hf
theorem zrun_VN {o ci : Nat} {fs : List (Option (Option Nat))} {as : List Value} (S : CallFix p m c cc nL s args zgt own) (hN : zNx s) (V : zWd D cy B s H locs cells sh M) (hE : zEx ν kc ks (.ref o :: as) sh M R0) (L : zLVN own host ix ν n) (ho : sh[o]? = some (.inr (.inl (ci, fs)))) {T : u_T} {N : Nat} (hc : zCL[ci]? = some (ν.1.cls, T, N))
    (hfr : ν.2.2.2.2.1 + 1 ≤ Rm.frames) (hlo : 8 + (ν.2.2.1 + 11) + ν.2.2.2.2.2 ≤ Rm.locals) (hn : as.length = n) (hsize : ls.size = nL) (hW : (rest.map fun v => v.category).sum ≤ 8) (hdg : decode cc pc = .ok (.invokevirtual ix, 3)) (hf : cells + kc ≤ Rm.cells ∧ slots + ks ≤ Rm.slots) :
    va_Run p l e Rm s m args below meth c H locs cells slots kc ks (F0 m pc ls ((as.map (zv B)).reverse ++ .ref (B + o) :: rest)) rest (zQC D cy B kc R0 (((Value.ref o :: as).map (zv B)).toArray)) (fun q => B ≤ q) := by
  obtain ⟨hcd, hd, h1, h2, h3⟩ := L
  exact va_runVN (C := ν.1.cls) (As := as.map (zv B)) (rest := rest) (g := F0 m pc ls ((as.map (zv B)).reverse ++ .ref (B + o) :: rest)) S (hE l D cy B) ⟨va_cnB n S.2.2.2.2 (zgood_code hcd) rfl rfl rfl (hN.1 _ h1) (S.2.2.2.2 _ hcd.2.1) ⟨hcd.2.2.1, hcd.2.2.2, hd⟩ (zcall_hR hfr hlo), S.2.2.2.2 _ h2, S.2.2.2.2 _ h3⟩ ⟨zPre_blind D cy B _ sh M, va_recv V.1 V.2.1 (ci := ci) (q0 := o) hc (zw_at ho), zPre_at (as := .ref o :: as) hN V⟩ rfl (by simp; exact hn) hsize rfl (lv_room hW) hdg hf
theorem zrun_S {as : List Value} (S : CallFix p m c cc nL s args zgt own) (hN : zNx s) (V : zWd D cy B s H locs cells sh M) (hE : zEx ν kc ks as sh M R0) (L : zLS own ix ν n)
    (hfr : ν.2.2.2.2.1 + 1 ≤ Rm.frames) (hlo : 8 + (ν.2.2.1 + 11) + ν.2.2.2.2.2 ≤ Rm.locals) (hn : as.length = n) (hsize : ls.size = nL) (hW : (rest.map fun v => v.category).sum ≤ 8) (hdg : decode cc pc = .ok (.invokestatic ix, 3)) (hf : cells + kc ≤ Rm.cells ∧ slots + ks ≤ Rm.slots) :
    va_Run p l e Rm s m args below meth c H locs cells slots kc ks (F0 m pc ls ((as.map (zv B)).reverse ++ rest)) rest (zQC D cy B kc R0 ((as.map (zv B)).toArray)) (fun q => B ≤ q) := by
  obtain ⟨hcd, hd, h1, h2⟩ := L
  have hG : GoodIn zgt (va_wsS own ix ν.1 (zws ν)) := fun w hw => by
    unfold va_wsS at hw
    rcases List.mem_append.mp hw with q | q
    · simp only [List.mem_cons, List.not_mem_nil, or_false] at q
      rcases q with rfl | rfl | rfl
      · exact zG _ h1
      · exact zG _ h2
      · exact zG _ hcd.2.1
    · exact zgood_code hcd w q
  exact va_runS (As := as.map (zv B)) (rest := rest) (g := F0 m pc ls ((as.map (zv B)).reverse ++ rest)) S (hE l D cy B) (va_cwS n S.2.2.2.2 hG rfl rfl rfl ⟨hcd.2.2.1, hcd.2.2.2, hd⟩ (zcall_hR hfr hlo)) ⟨zPre_blind D cy B _ sh M, zPre_at (as := as) hN V⟩ rfl (by simp; exact hn) hsize rfl (lv_room hW) hdg hf
theorem zrun_SN {as : List Value} (S : CallFix p m c cc nL s args zgt own) (hN : zNx s) (V : zWd D cy B s H locs cells sh M) (hE : zEx ν kc ks as sh M R0) (L : zLSN own host ix ν n)
    (hfr : ν.2.2.2.2.1 + 1 ≤ Rm.frames) (hlo : 8 + (ν.2.2.1 + 11) + ν.2.2.2.2.2 ≤ Rm.locals) (hn : as.length = n) (hsize : ls.size = nL) (hW : (rest.map fun v => v.category).sum ≤ 8) (hdg : decode cc pc = .ok (.invokestatic ix, 3)) (hf : cells + kc ≤ Rm.cells ∧ slots + ks ≤ Rm.slots) :
    va_Run p l e Rm s m args below meth c H locs cells slots kc ks (F0 m pc ls ((as.map (zv B)).reverse ++ rest)) rest (zQC D cy B kc R0 ((as.map (zv B)).toArray)) (fun q => B ≤ q) := by
  obtain ⟨hcd, hd, h1, h2⟩ := L
  exact va_runSN (As := as.map (zv B)) (rest := rest) (g := F0 m pc ls ((as.map (zv B)).reverse ++ rest)) S (hE l D cy B) ⟨va_cnB n S.2.2.2.2 (zgood_code hcd) rfl rfl rfl (hN.1 _ h1) (S.2.2.2.2 _ hcd.2.1) ⟨hcd.2.2.1, hcd.2.2.2, hd⟩ (zcall_hR hfr hlo), S.2.2.2.2 _ h2, trivial⟩ ⟨zPre_blind D cy B _ sh M, zPre_at (as := as) hN V⟩ rfl (by simp; exact hn) hsize rfl (lv_room hW) hdg hf
theorem zrun_I {o : Nat} {as : List Value} (S : CallFix p m c cc nL s args zgt own) (hN : zNx s) (V : zWd D cy B s H locs cells sh M) (hE : zEx ν kc ks (.ref o :: as) sh M R0) (L : zLI own ix ν n)
    (hfr : ν.2.2.2.2.1 + 1 ≤ Rm.frames) (hlo : 8 + (ν.2.2.1 + 11) + ν.2.2.2.2.2 ≤ Rm.locals) (hn : as.length = n) (hsize : ls.size = nL) (hW : (rest.map fun v => v.category).sum ≤ 8) (hdg : decode cc pc = .ok (.invokespecial ix, 3)) (hf : cells + kc ≤ Rm.cells ∧ slots + ks ≤ Rm.slots) :
    va_Run p l e Rm s m args below meth c H locs cells slots kc ks (F0 m pc ls ((as.map (zv B)).reverse ++ .ref (B + o) :: rest)) rest (zQC D cy B kc R0 (((Value.ref o :: as).map (zv B)).toArray)) (fun q => B ≤ q) := by
  obtain ⟨hcd, hd, h1, h2, h3, h4⟩ := L
  have hws : zws ν = Cond.code ν.1 ν.2.1 ν.2.2.1 none :: zgt := by rw [← h4]; rfl
  exact va_runI (As := as.map (zv B)) (rest := rest) (g := F0 m pc ls ((as.map (zv B)).reverse ++ .ref (B + o) :: rest)) S (hE l D cy B) (cwI n S.2.2.2.2 (zgood_code hcd) hws rfl rfl (S.2.2.2.2 _ hcd.2.1) (S.2.2.2.2 _ h1) (S.2.2.2.2 _ h2) h3 ⟨hcd.2.2.1, hcd.2.2.2, hd⟩ (zcall_hR hfr hlo)) ⟨zPre_blind D cy B _ sh M, zPre_at (as := .ref o :: as) hN V⟩ rfl (by simp; exact hn) hsize rfl (lv_room hW) hdg hf
theorem zrun_IN {o : Nat} {as : List Value} (S : CallFix p m c cc nL s args zgt own) (hN : zNx s) (V : zWd D cy B s H locs cells sh M) (hE : zEx ν kc ks (.ref o :: as) sh M R0) (L : zLIN own host ix ν n)
    (hfr : ν.2.2.2.2.1 + 1 ≤ Rm.frames) (hlo : 8 + (ν.2.2.1 + 11) + ν.2.2.2.2.2 ≤ Rm.locals) (hn : as.length = n) (hsize : ls.size = nL) (hW : (rest.map fun v => v.category).sum ≤ 8) (hdg : decode cc pc = .ok (.invokespecial ix, 3)) (hf : cells + kc ≤ Rm.cells ∧ slots + ks ≤ Rm.slots) :
    va_Run p l e Rm s m args below meth c H locs cells slots kc ks (F0 m pc ls ((as.map (zv B)).reverse ++ .ref (B + o) :: rest)) rest (zQC D cy B kc R0 (((Value.ref o :: as).map (zv B)).toArray)) (fun q => B ≤ q) := by
  obtain ⟨hcd, hd, h1, h2, h3, h4⟩ := L
  have hws : zws ν = Cond.code ν.1 ν.2.1 ν.2.2.1 none :: zgt := by rw [← h4]; rfl
  exact va_runIN (As := as.map (zv B)) (rest := rest) (g := F0 m pc ls ((as.map (zv B)).reverse ++ .ref (B + o) :: rest)) S (hE l D cy B) ⟨va_cnB n S.2.2.2.2 (zgood_code hcd) hws rfl rfl (hN.1 _ h1) (S.2.2.2.2 _ hcd.2.1) ⟨hcd.2.2.1, hcd.2.2.2, hd⟩ (zcall_hR hfr hlo), h3, S.2.2.2.2 _ h2⟩ ⟨zPre_blind D cy B _ sh M, zPre_at (as := .ref o :: as) hN V⟩ rfl (by simp; exact hn) hsize rfl (lv_room hW) hdg hf
end zCall2
end
section
theorem zst_sum (B : Nat) (st : List Value) : ((st.map (zv B)).map fun v => v.category).sum = (st.map fun v => v.category).sum := by simp [Function.comp_def, zv_cat]
theorem zCx_fix {μ : zMI} {p : Program} {Rm : Room} {s : State} {m : MethodId} {args : Array Value} {meth : Method} {c : Code} (C : zCx μ p Rm s m args meth c) : CallFix p m c μ.2.1 μ.2.2.1 s args zgt μ.1.cls := ⟨C.1, C.2.1, C.2.2.2.1, C.2.2.2.2.1, C.2.2.2.2.2.1⟩
theorem zCx_N {μ : zMI} {p : Program} {Rm : Room} {s : State} {m : MethodId} {args : Array Value} {meth : Method} {c : Code} (C : zCx μ p Rm s m args meth c) : zNx s := C.2.2.2.2.2.2.2.2.2.2
theorem zCx_fr {μ ν : zMI} {p : Program} {Rm : Room} {s : State} {m : MethodId} {args : Array Value} {meth : Method} {c : Code} (C : zCx μ p Rm s m args meth c) (h : zRo μ ν) : ν.2.2.2.2.1 + 1 ≤ Rm.frames := Nat.le_trans h.1 C.2.2.2.2.2.2.2.2.1
theorem zCx_lo {μ ν : zMI} {p : Program} {Rm : Room} {s : State} {m : MethodId} {args : Array Value} {meth : Method} {c : Code} (C : zCx μ p Rm s m args meth c) (h : zRo μ ν) : 8 + (ν.2.2.1 + 11) + ν.2.2.2.2.2 ≤ Rm.locals := Nat.le_trans h.2 C.2.2.2.2.2.2.2.2.2.1
theorem zs_callV {μ : zMI} {kc ks pc : Nat} {lv : List (Nat × Value)} {st : List Value} {sh : List zShp} {M : zMem} {R : zEnd}  {ν : zMI} {R0 : zEnd} {ix n kc1 ks1 : Nat} (as : List Value) {o : Nat} {ci : Nat} {fs : List (Option (Option Nat))} {T : u_T} {N : Nat} (hd : decode μ.2.1 pc = .ok (.invokevirtual ix, 3)) (L : zLV μ.1.cls ix ν n) (hr : zRo μ ν) (hn : as.length = n) (ho : sh[o]? = some (.inr (.inl (ci, fs)))) (hci : zCL[ci]? = some (ν.1.cls, T, N)) (hW : (st.map fun v => v.category).sum ≤ 8) (hE : zEx ν kc1 ks1 (.ref o :: as) sh M R0) (kk : ∀ (v : Option Value) (sh1 : List zShp) (M1 : zMem), R0 v sh1 M1 → zRT μ kc ks (pc + 3) lv (v.toList ++ st) sh1 M1 R) : zRT μ (kc1 + kc) (ks1 + ks) pc lv (as.reverse ++ .ref o :: st) sh M R := by
  intro p l e Rm s m args below meth c H locs cells slots D cy B ls C V hc hs hl
  rw [List.map_append, List.map_reverse, List.map_cons]
  refine zW_cont (zrun_V (zCx_fix C) (zCx_N C) V hE L ho hci (zCx_fr C hr) (zCx_lo C hr) hn hl.1 (by rw [zst_sum]; exact hW) hd ⟨by omega, by omega⟩) V (fun v sh1 M1 H1 locs1 hR V1 => ?_)
  have k := kk v sh1 M1 hR p l e Rm s m args below meth c H1 locs1 (cells + kc1) (slots + ks1) D cy B ls C V1 (by omega) (by omega) hl
  rw [List.map_append] at k
  cases v <;> exact k
theorem zs_callVN {μ : zMI} {kc ks pc : Nat} {lv : List (Nat × Value)} {st : List Value} {sh : List zShp} {M : zMem} {R : zEnd} {host : String} {ν : zMI} {R0 : zEnd} {ix n kc1 ks1 : Nat} (as : List Value) {o : Nat} {ci : Nat} {fs : List (Option (Option Nat))} {T : u_T} {N : Nat} (hd : decode μ.2.1 pc = .ok (.invokevirtual ix, 3)) (L : zLVN μ.1.cls host ix ν n) (hr : zRo μ ν) (hn : as.length = n) (ho : sh[o]? = some (.inr (.inl (ci, fs)))) (hci : zCL[ci]? = some (ν.1.cls, T, N)) (hW : (st.map fun v => v.category).sum ≤ 8) (hE : zEx ν kc1 ks1 (.ref o :: as) sh M R0) (kk : ∀ (v : Option Value) (sh1 : List zShp) (M1 : zMem), R0 v sh1 M1 → zRT μ kc ks (pc + 3) lv (v.toList ++ st) sh1 M1 R) : zRT μ (kc1 + kc) (ks1 + ks) pc lv (as.reverse ++ .ref o :: st) sh M R := by
  intro p l e Rm s m args below meth c H locs cells slots D cy B ls C V hc hs hl
  rw [List.map_append, List.map_reverse, List.map_cons]
  refine zW_cont (zrun_VN (zCx_fix C) (zCx_N C) V hE L ho hci (zCx_fr C hr) (zCx_lo C hr) hn hl.1 (by rw [zst_sum]; exact hW) hd ⟨by omega, by omega⟩) V (fun v sh1 M1 H1 locs1 hR V1 => ?_)
  have k := kk v sh1 M1 hR p l e Rm s m args below meth c H1 locs1 (cells + kc1) (slots + ks1) D cy B ls C V1 (by omega) (by omega) hl
  rw [List.map_append] at k
  cases v <;> exact k
theorem zs_callS {μ : zMI} {kc ks pc : Nat} {lv : List (Nat × Value)} {st : List Value} {sh : List zShp} {M : zMem} {R : zEnd}  {ν : zMI} {R0 : zEnd} {ix n kc1 ks1 : Nat} (as : List Value) (hd : decode μ.2.1 pc = .ok (.invokestatic ix, 3)) (L : zLS μ.1.cls ix ν n) (hr : zRo μ ν) (hn : as.length = n) (hW : (st.map fun v => v.category).sum ≤ 8) (hE : zEx ν kc1 ks1 (as) sh M R0) (kk : ∀ (v : Option Value) (sh1 : List zShp) (M1 : zMem), R0 v sh1 M1 → zRT μ kc ks (pc + 3) lv (v.toList ++ st) sh1 M1 R) : zRT μ (kc1 + kc) (ks1 + ks) pc lv (as.reverse ++ st) sh M R := by
  intro p l e Rm s m args below meth c H locs cells slots D cy B ls C V hc hs hl
  rw [List.map_append, List.map_reverse]
  refine zW_cont (zrun_S (zCx_fix C) (zCx_N C) V hE L (zCx_fr C hr) (zCx_lo C hr) hn hl.1 (by rw [zst_sum]; exact hW) hd ⟨by omega, by omega⟩) V (fun v sh1 M1 H1 locs1 hR V1 => ?_)
  have k := kk v sh1 M1 hR p l e Rm s m args below meth c H1 locs1 (cells + kc1) (slots + ks1) D cy B ls C V1 (by omega) (by omega) hl
  rw [List.map_append] at k
  cases v <;> exact k
theorem zs_callSN {μ : zMI} {kc ks pc : Nat} {lv : List (Nat × Value)} {st : List Value} {sh : List zShp} {M : zMem} {R : zEnd} {host : String} {ν : zMI} {R0 : zEnd} {ix n kc1 ks1 : Nat} (as : List Value) (hd : decode μ.2.1 pc = .ok (.invokestatic ix, 3)) (L : zLSN μ.1.cls host ix ν n) (hr : zRo μ ν) (hn : as.length = n) (hW : (st.map fun v => v.category).sum ≤ 8) (hE : zEx ν kc1 ks1 (as) sh M R0) (kk : ∀ (v : Option Value) (sh1 : List zShp) (M1 : zMem), R0 v sh1 M1 → zRT μ kc ks (pc + 3) lv (v.toList ++ st) sh1 M1 R) : zRT μ (kc1 + kc) (ks1 + ks) pc lv (as.reverse ++ st) sh M R := by
  intro p l e Rm s m args below meth c H locs cells slots D cy B ls C V hc hs hl
  rw [List.map_append, List.map_reverse]
  refine zW_cont (zrun_SN (zCx_fix C) (zCx_N C) V hE L (zCx_fr C hr) (zCx_lo C hr) hn hl.1 (by rw [zst_sum]; exact hW) hd ⟨by omega, by omega⟩) V (fun v sh1 M1 H1 locs1 hR V1 => ?_)
  have k := kk v sh1 M1 hR p l e Rm s m args below meth c H1 locs1 (cells + kc1) (slots + ks1) D cy B ls C V1 (by omega) (by omega) hl
  rw [List.map_append] at k
  cases v <;> exact k
theorem zs_callI {μ : zMI} {kc ks pc : Nat} {lv : List (Nat × Value)} {st : List Value} {sh : List zShp} {M : zMem} {R : zEnd}  {ν : zMI} {R0 : zEnd} {ix n kc1 ks1 : Nat} (as : List Value) {o : Nat} (hd : decode μ.2.1 pc = .ok (.invokespecial ix, 3)) (L : zLI μ.1.cls ix ν n) (hr : zRo μ ν) (hn : as.length = n) (hW : (st.map fun v => v.category).sum ≤ 8) (hE : zEx ν kc1 ks1 (.ref o :: as) sh M R0) (kk : ∀ (v : Option Value) (sh1 : List zShp) (M1 : zMem), R0 v sh1 M1 → zRT μ kc ks (pc + 3) lv (v.toList ++ st) sh1 M1 R) : zRT μ (kc1 + kc) (ks1 + ks) pc lv (as.reverse ++ .ref o :: st) sh M R := by
  intro p l e Rm s m args below meth c H locs cells slots D cy B ls C V hc hs hl
  rw [List.map_append, List.map_reverse, List.map_cons]
  refine zW_cont (zrun_I (zCx_fix C) (zCx_N C) V hE L (zCx_fr C hr) (zCx_lo C hr) hn hl.1 (by rw [zst_sum]; exact hW) hd ⟨by omega, by omega⟩) V (fun v sh1 M1 H1 locs1 hR V1 => ?_)
  have k := kk v sh1 M1 hR p l e Rm s m args below meth c H1 locs1 (cells + kc1) (slots + ks1) D cy B ls C V1 (by omega) (by omega) hl
  rw [List.map_append] at k
  cases v <;> exact k
theorem zs_callIN {μ : zMI} {kc ks pc : Nat} {lv : List (Nat × Value)} {st : List Value} {sh : List zShp} {M : zMem} {R : zEnd} {host : String} {ν : zMI} {R0 : zEnd} {ix n kc1 ks1 : Nat} (as : List Value) {o : Nat} (hd : decode μ.2.1 pc = .ok (.invokespecial ix, 3)) (L : zLIN μ.1.cls host ix ν n) (hr : zRo μ ν) (hn : as.length = n) (hW : (st.map fun v => v.category).sum ≤ 8) (hE : zEx ν kc1 ks1 (.ref o :: as) sh M R0) (kk : ∀ (v : Option Value) (sh1 : List zShp) (M1 : zMem), R0 v sh1 M1 → zRT μ kc ks (pc + 3) lv (v.toList ++ st) sh1 M1 R) : zRT μ (kc1 + kc) (ks1 + ks) pc lv (as.reverse ++ .ref o :: st) sh M R := by
  intro p l e Rm s m args below meth c H locs cells slots D cy B ls C V hc hs hl
  rw [List.map_append, List.map_reverse, List.map_cons]
  refine zW_cont (zrun_IN (zCx_fix C) (zCx_N C) V hE L (zCx_fr C hr) (zCx_lo C hr) hn hl.1 (by rw [zst_sum]; exact hW) hd ⟨by omega, by omega⟩) V (fun v sh1 M1 H1 locs1 hR V1 => ?_)
  have k := kk v sh1 M1 hR p l e Rm s m args below meth c H1 locs1 (cells + kc1) (slots + ks1) D cy B ls C V1 (by omega) (by omega) hl
  rw [List.map_append] at k
  cases v <;> exact k
theorem zs_iret {μ : zMI} {ks pc : Nat} {lv : List (Nat × Value)} {sh : List zShp} {M : zMem} {R : zEnd} {v : Int32} (hd : decode μ.2.1 pc = .ok (.ireturn, 1)) (hret : μ.2.2.2.1 = some .int) (hR : R (some (.int v)) sh M) : zRT μ 0 ks pc lv [.int v] sh M R := by
  intro p l e Rm s m args below meth c H locs cells slots D cy B ls C V hc hs hl
  refine W.widen (k := Rm.cells) (n := Rm.slots) (by omega) (by omega) ?_
  exact W.iret C.1 C.2.1 (C.2.2.1.trans hret) (fun t ht hW => ⟨⟨some (.int v), sh, M, rfl, hR, va_K.moved hW.alike V.1, by rw [ht]; exact V.2.1, by rw [ht]; exact V.2.2.1⟩, V.2.2.2.2.1.F ht, by rw [ht]; have := V.2.2.2.1; omega⟩) V.2.2.2.2.1.2.2 hd C.2.2.2.2.2.2.1
theorem zs_lret {μ : zMI} {ks pc : Nat} {lv : List (Nat × Value)} {sh : List zShp} {M : zMem} {R : zEnd} {v : Int64} (hd : decode μ.2.1 pc = .ok (.lreturn, 1)) (hret : μ.2.2.2.1 = some .long) (hR : R (some (.long v)) sh M) : zRT μ 0 ks pc lv [.long v] sh M R := by
  intro p l e Rm s m args below meth c H locs cells slots D cy B ls C V hc hs hl
  refine W.widen (k := Rm.cells) (n := Rm.slots) (by omega) (by omega) ?_
  exact W.lret C.1 C.2.1 (C.2.2.1.trans hret) (fun t ht hW => ⟨⟨some (.long v), sh, M, rfl, hR, va_K.moved hW.alike V.1, by rw [ht]; exact V.2.1, by rw [ht]; exact V.2.2.1⟩, V.2.2.2.2.1.F ht, by rw [ht]; have := V.2.2.2.1; omega⟩) V.2.2.2.2.1.2.2 hd C.2.2.2.2.2.2.1
theorem zs_vret {μ : zMI} {ks pc : Nat} {lv : List (Nat × Value)} {sh : List zShp} {M : zMem} {R : zEnd} (hd : decode μ.2.1 pc = .ok (.return_, 1)) (hret : μ.2.2.2.1 = none) (hR : R (none) sh M) : zRT μ 0 ks pc lv [] sh M R := by
  intro p l e Rm s m args below meth c H locs cells slots D cy B ls C V hc hs hl
  refine W.widen (k := Rm.cells) (n := Rm.slots) (by omega) (by omega) ?_
  exact W.vret C.1 C.2.1 (C.2.2.1.trans hret) (fun t ht hW => ⟨⟨none, sh, M, rfl, hR, va_K.moved hW.alike V.1, by rw [ht]; exact V.2.1, by rw [ht]; exact V.2.2.1⟩, V.2.2.2.2.1.F ht, by rw [ht]; have := V.2.2.2.1; omega⟩) V.2.2.2.2.1.2.2 hd C.2.2.2.2.2.2.1
theorem zs_zret {μ : zMI} {ks pc : Nat} {lv : List (Nat × Value)} {sh : List zShp} {M : zMem} {R : zEnd} {v : Int32} (hn : narrow .boolean (.int v) = .int v) (hd : decode μ.2.1 pc = .ok (.ireturn, 1)) (hret : μ.2.2.2.1 = some .boolean) (hR : R (some (.int v)) sh M) : zRT μ 0 ks pc lv [.int v] sh M R := by
  intro p l e Rm s m args below meth c H locs cells slots D cy B ls C V hc hs hl
  refine W.widen (k := Rm.cells) (n := Rm.slots) (by omega) (by omega) ?_
  exact W.zret C.1 C.2.1 (C.2.2.1.trans hret) hn (fun t ht hW => ⟨⟨some (.int v), sh, M, rfl, hR, va_K.moved hW.alike V.1, by rw [ht]; exact V.2.1, by rw [ht]; exact V.2.2.1⟩, V.2.2.2.2.1.F ht, by rw [ht]; have := V.2.2.2.1; omega⟩) V.2.2.2.2.1.2.2 hd C.2.2.2.2.2.2.1
theorem zEx_of {μ : zMI} {kc ks : Nat} {as : List Value} {sh : List zShp} {M : zMem} {R : zEnd} (lv : List (Nat × Value)) (hy : plainName μ.1.cls = true) (hcat : ∀ v ∈ as, v.category = 1) (hlen : as.length ≤ μ.2.2.1) (hlv : lv_args 0 as = lv) (k : zRT μ kc ks 0 lv [] sh M R) : zEx μ kc ks as sh M R := by
  intro l D cy B
  refine Met.ofW (cc := μ.2.1) (maxL := μ.2.2.1) (ret := μ.2.2.2.1) hy rfl ?_
  intro p e s m args below meth c s₁ Bd hml hv
  obtain ⟨rfl, hK, hP, hz, hN⟩ := hv
  have hts := atoms_spec (ws := zws μ) Bd.pre
  have hcat2 : ∀ v ∈ as.map (zv B), v.category = 1 := fun v hv => by
    obtain ⟨w, hw, rfl⟩ := List.mem_map.mp hv
    rw [zv_cat]; exact hcat w hw
  have hsl : ∀ vs : List Value, (∀ v ∈ vs, v.category = 1) → (lg_sl vs).length = vs.length := by
    intro vs
    induction vs with
    | nil => intro _; rfl
    | cons v vs ih =>
      intro h
      have h1 := h v List.mem_cons_self
      have h2 := ih (fun w hw => h w (List.mem_cons_of_mem _ hw))
      simp only [lg_sl, List.flatMap_cons, h1, List.length_append] at h2 ⊢
      simp at h2 ⊢
      omega
  have hargs : ∀ (vs : List Value) (i : Nat), lv_args i (vs.map (zv B)) = (lv_args i vs).map (fun q => (q.1, zv B q.2)) := by
    intro vs
    induction vs with
    | nil => intro i; rfl
    | cons v vs ih =>
      intro i
      simp only [List.map_cons, lv_args, zv_cat, ih]
  have hl := lv_entry (as.map (zv B)) (n := μ.2.2.1) (by rw [hsl _ hcat2, List.length_map]; exact hlen)
  rw [lg_entry_eq]
  generalize (lg_sl (as.map (zv B)) ++ List.replicate (μ.2.2.1 - (lg_sl (as.map (zv B))).length) Slot.unset).toArray = ls at hl ⊢
  rw [hargs, hlv] at hl
  exact k p l e _ s m _ below meth c s.heap [] 0 0 D cy B ls ⟨Bd.exec, Bd.bytes, Bd.returns, hml, findClass_of_methodNamed Bd.named, fun w hw => hts w (List.mem_cons_of_mem _ hw), Bd.notSynchronized, (name_of_methodNamed Bd.named Bd.method).1, Nat.le_refl _, Nat.le_refl _, hN⟩ ⟨hK, hP, hz, rfl, va_S.rf, by omega⟩ (Nat.zero_add _) (Nat.le_of_eq (Nat.zero_add _)) hl
theorem zEx_mono {μ : zMI} {kc ks : Nat} {as : List Value} {sh : List zShp} {M : zMem} {R R2 : zEnd} (h : zEx μ kc ks as sh M R) (hR : ∀ v sh1 M1, R v sh1 M1 → R2 v sh1 M1) : zEx μ kc ks as sh M R2 := by
  intro l D cy B
  intro p e a1 a2 a3 s m args below a4 a5 a6 a7
  obtain ⟨k, o, b1, b2, b3, ⟨⟨v, sh1, M1, h1, h2, h3⟩, h4⟩, h5⟩ := h l D cy B p e a1 a2 a3 s m args below a4 a5 a6 a7
  exact ⟨k, o, b1, b2, b3, ⟨⟨v, sh1, M1, h1, hR _ _ _ h2, h3⟩, h4⟩, h5⟩
end
section
def zNW (own : String) (ix ci N : Nat) (fs : List (Option (Option Nat))) : Prop := ∃ (Cn : String) (T : u_T) (t : Nat → FieldType), zCL[ci]? = some (Cn, T, N) ∧ (∀ w ∈ u_ws Cn T N, w ∈ zgt) ∧ (∀ k, k < N → parseFieldDescriptor (T k).2.2.1 = some (t k)) ∧ Cond.classLink own ix Cn ∈ zgt ∧ Cond.instantiable Cn N ∈ zgt ∧ Cond.initialized Cn ∈ zgt ∧ (∀ j, j < N → defaultValue (t j) = vp_V (fs.mapIdx (fun j x => zfv (fun _ => 0) j x)) j) ∧ (∀ x ∈ fs, x = none ∨ x = some none)
/-- a new cell: the world behind it -/
theorem zWd_new {D : va_G} {cy : zCy} {B : Nat} {s : State} {H H1 : Heap} {locs : List Loc} {cells : Nat} {sh : List zShp} {M : zMem} (V : zWd D cy B s H locs cells sh M) (cc : zShp) (z1 : H1.size = H.size + 1) (o1 : ∀ q, q < H.size → H1[q]? = H[q]?) (h : va_at D zCL (H.size, zc cy B (fun _ => 0) cc) H1) : zWd D cy B s H1 locs (cells + 1) (sh ++ [cc]) (zmr M sh.length (fun _ => 0)) := by
  obtain ⟨v1, v2, v3, v4, v5, v6⟩ := V
  refine ⟨v1, ?_, by rw [z1, v3, List.length_append]; rfl, by omega, ⟨by have := v5.1; omega, fun q a b => (o1 q (Nat.lt_of_lt_of_le a v5.1)).trans (v5.2.1 q a b), v5.2.2⟩, v6⟩
  rw [zw_push, ← v3]
  refine (v2.kept (fun k x hx => o1 x.1 ((v2 k x hx).lt))).app (fun k x hx => ?_)
  have hz : k < 1 := (List.getElem?_eq_some_iff.mp hx).1
  rw [show k = 0 by omega] at hx
  cases hx
  exact h
theorem zs_new {μ : zMI} {kc ks pc : Nat} {lv : List (Nat × Value)} {st : List Value} {sh : List zShp} {M : zMem} {R : zEnd} {ix ci N : Nat} {fs : List (Option (Option Nat))} (hd : decode μ.2.1 pc = .ok (.new ix, 3)) (F : zNW μ.1.cls ix ci N fs) (k : zRT μ kc ks (pc + 3) lv (.ref sh.length :: st) (sh ++ [.inr (.inl (ci, fs))]) (zmr M sh.length (fun _ => 0)) R) : zRT μ (kc + 1) (ks + N) pc lv st sh M R := by
  intro p l e Rm s m args below meth c H locs cells slots D cy B ls C V hc hs hl
  obtain ⟨Cn, T, t, h1, h2, h3, h4, h5, h6, h7, h8⟩ := F
  have hts := C.2.2.2.2.2.1
  have hKn := V.1.1 ci _ h1
  refine W.newcK C.1 C.2.1 C.2.2.2.2.1 (hts _ h4) (hts _ h5) (hts _ h6) rfl hd (by omega) (by omega) hKn.2.1 rfl fun H1 kC hkC e1 z1 o1 => ?_
  have hfs : fs.mapIdx (fun j x => zv B (zfv (fun _ => 0) j x)) = fs.mapIdx (fun j x => zfv (fun _ => 0) j x) := by
    refine List.ext_getElem? fun j => ?_
    simp only [List.getElem?_mapIdx]
    cases hj : fs[j]? with
    | none => rfl
    | some x =>
      rcases h8 x (List.mem_of_getElem? hj) with rfl | rfl <;> rfl
  have hV := zWd_new V (.inr (.inl (ci, fs))) z1 o1 ⟨_, h1, by
    show t_OB H.size (D.1 ci) N (D.2 ci) H1 (vp_V (fs.mapIdx (fun j x => zv B (zfv (fun _ => 0) j x))))
    rw [hfs]
    exact (u_born t hts h2 hKn hkC e1 h3).to h7⟩
  have k := k p l e Rm s m args below meth c H1 locs (cells + 1) (slots + N) D cy B ls C hV (by omega) (by omega) hl
  rw [List.map_cons, show zv B (.ref sh.length) = .ref (B + sh.length) from rfl, ← V.2.2.1] at k
  exact k
theorem zs_newa {μ : zMI} {kc ks pc : Nat} {lv : List (Nat × Value)} {st : List Value} {sh : List zShp} {M : zMem} {R : zEnd} {n : Int32} {N : Nat} (hd : decode μ.2.1 pc = .ok (.newarray .int, 2)) (hn : ¬ n < 0) (hN : n.toNatClampNeg = N) (hb : N * componentBytes (newarray.typeOf .int) ≤ 536870912) (k : zRT μ kc ks (pc + 2) lv (.ref sh.length :: st) (sh ++ [.inl (0, N)]) (zmr M sh.length (fun _ => 0)) R) : zRT μ (kc + 1) (ks + N) pc lv (.int n :: st) sh M R := by
  intro p l e Rm s m args below meth c H locs cells slots D cy B ls C V hc hs hl
  have hts := C.2.2.2.2.2.1
  have hac : (Cond.arrayClass (newarray.typeOf .int)).before args s = true := hts (.arrayClass .int) (by decide +kernel)
  have hc1 : cells + 1 ≤ Rm.cells := by omega
  have hs1 : slots + N ≤ Rm.slots := by omega
  refine va_newaK (atype := .int) (g := F0 m pc ls (.int n :: st.map (zv B))) (rest := st.map (zv B)) (n := n) (N := N) C.1 C.2.1 hac rfl hd rfl hn hN hb hc1 hs1 (h := H.size) rfl fun H1 cA e1 z1 o1 hAr hNm => ?_
  have hcy : cA = cy.1 := by
    have h := (V.1.2 0 (cy.1, .int) rfl).2
    exact Option.some.inj (hNm.symm.trans h)
  subst hcy
  have hV := zWd_new V (.inl (0, N)) z1 o1 (by
    show H1[H.size]? = some (vp_cell cy.1 (N, .inl (fun _ => 0)))
    exact e1)
  have k := k p l e Rm s m args below meth c H1 locs (cells + 1) (slots + N) D cy B ls C hV (by omega) (by omega) hl
  rw [List.map_cons, show zv B (.ref sh.length) = .ref (B + sh.length) from rfl, ← V.2.2.1] at k
  exact k
theorem zs_newz {μ : zMI} {kc ks pc : Nat} {lv : List (Nat × Value)} {st : List Value} {sh : List zShp} {M : zMem} {R : zEnd} {n : Int32} {N : Nat} (hd : decode μ.2.1 pc = .ok (.newarray .boolean, 2)) (hn : ¬ n < 0) (hN : n.toNatClampNeg = N) (hb : N * componentBytes (newarray.typeOf .boolean) ≤ 536870912) (k : zRT μ kc ks (pc + 2) lv (.ref sh.length :: st) (sh ++ [.inl (1, N)]) (zmr M sh.length (fun _ => 0)) R) : zRT μ (kc + 1) (ks + N) pc lv (.int n :: st) sh M R := by
  intro p l e Rm s m args below meth c H locs cells slots D cy B ls C V hc hs hl
  have hts := C.2.2.2.2.2.1
  have hac : (Cond.arrayClass (newarray.typeOf .boolean)).before args s = true := hts (.arrayClass .boolean) (by decide +kernel)
  have hc1 : cells + 1 ≤ Rm.cells := by omega
  have hs1 : slots + N ≤ Rm.slots := by omega
  refine va_newaK (atype := .boolean) (g := F0 m pc ls (.int n :: st.map (zv B))) (rest := st.map (zv B)) (n := n) (N := N) C.1 C.2.1 hac rfl hd rfl hn hN hb hc1 hs1 (h := H.size) rfl fun H1 cA e1 z1 o1 hAr hNm => ?_
  have hcy : cA = cy.2.1 := by
    have h := (V.1.2 1 (cy.2.1, .boolean) rfl).2
    exact Option.some.inj (hNm.symm.trans h)
  subst hcy
  have hV := zWd_new V (.inl (1, N)) z1 o1 (by
    show H1[H.size]? = some (vp_cell cy.2.1 (N, .inl (fun _ => 0)))
    exact e1)
  have k := k p l e Rm s m args below meth c H1 locs (cells + 1) (slots + N) D cy B ls C hV (by omega) (by omega) hl
  rw [List.map_cons, show zv B (.ref sh.length) = .ref (B + sh.length) from rfl, ← V.2.2.1] at k
  exact k
theorem zs_newr {μ : zMI} {kc ks pc : Nat} {lv : List (Nat × Value)} {st : List Value} {sh : List zShp} {M : zMem} {R : zEnd} {n : Int32} {N ix : Nat} (hd : decode μ.2.1 pc = .ok (.anewarray ix, 3)) (hw : Cond.classLink μ.1.cls ix "OthersHands$Town" ∈ zgt) (hn : ¬ n < 0) (hN : n.toNatClampNeg = N) (hb : N * 4 ≤ 536870912) (k : zRT μ kc ks (pc + 3) lv (.ref sh.length :: st) (sh ++ [.inr (.inr (N, fun _ => none))]) (zmr M sh.length (fun _ => 0)) R) : zRT μ (kc + 1) (ks + N) pc lv (.int n :: st) sh M R := by
  intro p l e Rm s m args below meth c H locs cells slots D cy B ls C V hc hs hl
  have hts := C.2.2.2.2.2.1
  subst hN
  refine W.anew C.1 C.2.1 C.2.2.2.2.1 (hts _ hw) (va_AO.use (zCx_N C).2) rfl hd rfl hn hb (by omega) (by omega) fun cA kA comp f1 f2 f3 f4 => ?_
  generalize hH1 : H.push ({ cls := cA, slots := Array.replicate n.toNatClampNeg .null, vm := .none } : Cell) = H1
  have z1 : H1.size = H.size + 1 := by rw [← hH1, Array.size_push]
  have e1 : H1[H.size]? = some (arrV cA n.toNatClampNeg (fun _ => .null)) := by rw [← hH1, Array.getElem?_push_size, ← arrV_new]
  have o1 : ∀ q : Nat, q < H.size → H1[q]? = H[q]? := fun q hq => by rw [← hH1, Array.getElem?_push, if_neg (Nat.ne_of_lt hq)]
  have hcy : cA = cy.2.2 := by
    obtain ⟨_, _, -, -, -, h⟩ := (V.1.2 2 (cy.2.2, .object "OthersHands$Town") rfl).2
    exact Option.some.inj (f1.symm.trans h)
  subst hcy
  have hV := zWd_new V (.inr (.inr (n.toNatClampNeg, fun _ => none))) z1 o1 (by
    show H1[H.size]? = some (vp_cell cy.2.2 (n.toNatClampNeg, .inr (.inr (.inr (.inr (fun _ => none))))))
    exact e1)
  have k := k p l e Rm s m args below meth c H1 locs (cells + 1) (slots + n.toNatClampNeg) D cy B ls C hV (by omega) (by omega) hl
  rw [List.map_cons, show zv B (.ref sh.length) = .ref (B + sh.length) from rfl, ← V.2.2.1] at k
  exact k
theorem zs_objInit {μ : zMI} {kc ks pc : Nat} {lv : List (Nat × Value)} {st : List Value} {sh : List zShp} {M : zMem} {R : zEnd} {ix o : Nat} (hd : decode μ.2.1 pc = .ok (.invokespecial ix, 3)) (hw : Cond.methodLink μ.1.cls ix Lib.objectInit ∈ zgt) (hr : 1 ≤ μ.2.2.2.2.1 ∧ (st.map fun v => v.category).sum + 12 ≤ μ.2.2.2.2.2) (k : zRT μ kc ks (pc + 3) lv st sh M R) : zRT μ kc ks pc lv (.ref o :: st) sh M R := by
  intro p l e Rm s m args below meth c H locs cells slots D cy B ls C V hc hs hl
  have hts := C.2.2.2.2.2.1
  refine W.objInit (a := B + o) (rest := st.map (zv B)) C.1 C.2.1 C.2.2.2.2.1 (hts _ hw) (hts (.instanceMethod Lib.objectInit) (by decide +kernel)) (hts (.code Lib.objectInit ⟨#[0xb1]⟩ 1 none) (by decide +kernel)) rfl (hl.1.trans C.2.2.2.1.symm) rfl hd (Nat.le_trans hr.1 C.2.2.2.2.2.2.2.2.1) ?_ (k p l e Rm s m args below meth c H locs cells slots D cy B ls C V hc hs hl)
  have := C.2.2.2.2.2.2.2.2.2.1
  have h2 := hr.2
  show 2 * 0 + ((st.map (zv B)).map fun v => v.category).sum + 12 ≤ Rm.locals
  rw [zst_sum]
  omega
end
