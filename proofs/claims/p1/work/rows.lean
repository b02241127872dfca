section
-- ===== PART A: goes FIRST, ahead of the names: the tables' words, and 'selects' of the private methods out of them =====
/-- a private method of a class that the tables say can be made, by its rows of tables_1 -/
def lw_okq (q : MethodName × Nat) : Prop := (q.1.cls ≠ "java/lang/invoke/MethodHandle" ∧ q.1.cls ≠ "java/lang/invoke/VarHandle") ∧ Cond.instantiable q.1.cls q.2 ∈ tables_1 ∧ Cond.privateMethod q.1 ∈ tables_1 ∧ Cond.instanceMethod q.1 ∈ tables_1
theorem lw_p0 : lw_okq (⟨"OthersHands$Reader", "takes", "(I)Z"⟩, 3) := ⟨⟨by decide +kernel, by decide +kernel⟩, List.mem_of_getElem? (i := 41) (by decide +kernel), List.mem_of_getElem? (i := 269) (by decide +kernel), List.mem_of_getElem? (i := 270) (by decide +kernel)⟩
theorem lw_p1 : lw_okq (⟨"OthersHands$Reader", "takesTool", "(II)Z"⟩, 3) := ⟨⟨by decide +kernel, by decide +kernel⟩, List.mem_of_getElem? (i := 41) (by decide +kernel), List.mem_of_getElem? (i := 273) (by decide +kernel), List.mem_of_getElem? (i := 274) (by decide +kernel)⟩
theorem lw_p2 : lw_okq (⟨"OthersHands$Reader", "takesFrom", "(II)Z"⟩, 3) := ⟨⟨by decide +kernel, by decide +kernel⟩, List.mem_of_getElem? (i := 41) (by decide +kernel), List.mem_of_getElem? (i := 277) (by decide +kernel), List.mem_of_getElem? (i := 278) (by decide +kernel)⟩
theorem lw_p3 : lw_okq (⟨"OthersHands$Reader", "takesMan", "(II)Z"⟩, 3) := ⟨⟨by decide +kernel, by decide +kernel⟩, List.mem_of_getElem? (i := 41) (by decide +kernel), List.mem_of_getElem? (i := 281) (by decide +kernel), List.mem_of_getElem? (i := 282) (by decide +kernel)⟩
theorem lw_p4 : lw_okq (⟨"OthersHands$Reader", "hasRoomForHand", "(I)Z"⟩, 3) := ⟨⟨by decide +kernel, by decide +kernel⟩, List.mem_of_getElem? (i := 41) (by decide +kernel), List.mem_of_getElem? (i := 285) (by decide +kernel), List.mem_of_getElem? (i := 286) (by decide +kernel)⟩
theorem lw_p5 : lw_okq (⟨"OthersHands$Reader", "takesPlus", "(I)Z"⟩, 3) := ⟨⟨by decide +kernel, by decide +kernel⟩, List.mem_of_getElem? (i := 41) (by decide +kernel), List.mem_of_getElem? (i := 295) (by decide +kernel), List.mem_of_getElem? (i := 296) (by decide +kernel)⟩
theorem lw_p6 : lw_okq (⟨"OthersHands$Reader", "takesAsk", "(I)Z"⟩, 3) := ⟨⟨by decide +kernel, by decide +kernel⟩, List.mem_of_getElem? (i := 41) (by decide +kernel), List.mem_of_getElem? (i := 299) (by decide +kernel), List.mem_of_getElem? (i := 300) (by decide +kernel)⟩
theorem lw_p7 : lw_okq (⟨"OthersHands$Reader", "takesEnd", "(I)Z"⟩, 3) := ⟨⟨by decide +kernel, by decide +kernel⟩, List.mem_of_getElem? (i := 41) (by decide +kernel), List.mem_of_getElem? (i := 303) (by decide +kernel), List.mem_of_getElem? (i := 304) (by decide +kernel)⟩
theorem lw_p8 : lw_okq (⟨"OthersHands", "isThing", "(I)Z"⟩, 8) := ⟨⟨by decide +kernel, by decide +kernel⟩, List.mem_of_getElem? (i := 16) (by decide +kernel), List.mem_of_getElem? (i := 326) (by decide +kernel), List.mem_of_getElem? (i := 327) (by decide +kernel)⟩
theorem lw_p9 : lw_okq (⟨"OthersHands$Filling", "findAsks", "(LOthersHands$Pages;)V"⟩, 4) := ⟨⟨by decide +kernel, by decide +kernel⟩, List.mem_of_getElem? (i := 162) (by decide +kernel), List.mem_of_getElem? (i := 467) (by decide +kernel), List.mem_of_getElem? (i := 468) (by decide +kernel)⟩
theorem lw_p10 : lw_okq (⟨"OthersHands$Filling", "applySight", "(IILOthersHands$Pages;)V"⟩, 4) := ⟨⟨by decide +kernel, by decide +kernel⟩, List.mem_of_getElem? (i := 162) (by decide +kernel), List.mem_of_getElem? (i := 473) (by decide +kernel), List.mem_of_getElem? (i := 474) (by decide +kernel)⟩
theorem lw_p11 : lw_okq (⟨"OthersHands$Filling", "isForced", "(II)Z"⟩, 4) := ⟨⟨by decide +kernel, by decide +kernel⟩, List.mem_of_getElem? (i := 162) (by decide +kernel), List.mem_of_getElem? (i := 501) (by decide +kernel), List.mem_of_getElem? (i := 502) (by decide +kernel)⟩
theorem lw_p12 : lw_okq (⟨"OthersHands$Bread", "mostFed", "(I)I"⟩, 3) := ⟨⟨by decide +kernel, by decide +kernel⟩, List.mem_of_getElem? (i := 181) (by decide +kernel), List.mem_of_getElem? (i := 524) (by decide +kernel), List.mem_of_getElem? (i := 525) (by decide +kernel)⟩
theorem lw_p13 : lw_okq (⟨"OthersHands$Bread", "loavesFor", "(I)I"⟩, 3) := ⟨⟨by decide +kernel, by decide +kernel⟩, List.mem_of_getElem? (i := 181) (by decide +kernel), List.mem_of_getElem? (i := 529) (by decide +kernel), List.mem_of_getElem? (i := 530) (by decide +kernel)⟩
theorem lw_p14 : lw_okq (⟨"OthersHands$Bread", "takeLeastMeal", "(II)I"⟩, 3) := ⟨⟨by decide +kernel, by decide +kernel⟩, List.mem_of_getElem? (i := 181) (by decide +kernel), List.mem_of_getElem? (i := 537) (by decide +kernel), List.mem_of_getElem? (i := 538) (by decide +kernel)⟩
theorem lw_p15 : lw_okq (⟨"OthersHands$Matchmaker", "sumUp", "(I)V"⟩, 3) := ⟨⟨by decide +kernel, by decide +kernel⟩, List.mem_of_getElem? (i := 199) (by decide +kernel), List.mem_of_getElem? (i := 581) (by decide +kernel), List.mem_of_getElem? (i := 582) (by decide +kernel)⟩
def lw_privs_1 : List (MethodName × Nat) := [(⟨"OthersHands$Reader", "takes", "(I)Z"⟩, 3), (⟨"OthersHands$Reader", "takesTool", "(II)Z"⟩, 3), (⟨"OthersHands$Reader", "takesFrom", "(II)Z"⟩, 3), (⟨"OthersHands$Reader", "takesMan", "(II)Z"⟩, 3), (⟨"OthersHands$Reader", "hasRoomForHand", "(I)Z"⟩, 3), (⟨"OthersHands$Reader", "takesPlus", "(I)Z"⟩, 3), (⟨"OthersHands$Reader", "takesAsk", "(I)Z"⟩, 3), (⟨"OthersHands$Reader", "takesEnd", "(I)Z"⟩, 3), (⟨"OthersHands", "isThing", "(I)Z"⟩, 8), (⟨"OthersHands$Filling", "findAsks", "(LOthersHands$Pages;)V"⟩, 4), (⟨"OthersHands$Filling", "applySight", "(IILOthersHands$Pages;)V"⟩, 4), (⟨"OthersHands$Filling", "isForced", "(II)Z"⟩, 4), (⟨"OthersHands$Bread", "mostFed", "(I)I"⟩, 3), (⟨"OthersHands$Bread", "loavesFor", "(I)I"⟩, 3), (⟨"OthersHands$Bread", "takeLeastMeal", "(II)I"⟩, 3), (⟨"OthersHands$Matchmaker", "sumUp", "(I)V"⟩, 3)]
theorem lw_r1 : ∀ q ∈ lw_privs_1, lw_okq q := List.forall_mem_cons.mpr ⟨lw_p0, List.forall_mem_cons.mpr ⟨lw_p1, List.forall_mem_cons.mpr ⟨lw_p2, List.forall_mem_cons.mpr ⟨lw_p3, List.forall_mem_cons.mpr ⟨lw_p4, List.forall_mem_cons.mpr ⟨lw_p5, List.forall_mem_cons.mpr ⟨lw_p6, List.forall_mem_cons.mpr ⟨lw_p7, List.forall_mem_cons.mpr ⟨lw_p8, List.forall_mem_cons.mpr ⟨lw_p9, List.forall_mem_cons.mpr ⟨lw_p10, List.forall_mem_cons.mpr ⟨lw_p11, List.forall_mem_cons.mpr ⟨lw_p12, List.forall_mem_cons.mpr ⟨lw_p13, List.forall_mem_cons.mpr ⟨lw_p14, List.forall_mem_cons.mpr ⟨lw_p15, fun _ h => absurd h List.not_mem_nil⟩⟩⟩⟩⟩⟩⟩⟩⟩⟩⟩⟩⟩⟩⟩⟩
theorem lw_p16 : lw_okq (⟨"OthersHands$Matchmaker", "leastSum", "(I)I"⟩, 3) := ⟨⟨by decide +kernel, by decide +kernel⟩, List.mem_of_getElem? (i := 199) (by decide +kernel), List.mem_of_getElem? (i := 586) (by decide +kernel), List.mem_of_getElem? (i := 587) (by decide +kernel)⟩
theorem lw_p17 : lw_okq (⟨"OthersHands$Matchmaker", "bestOther", "(II)I"⟩, 3) := ⟨⟨by decide +kernel, by decide +kernel⟩, List.mem_of_getElem? (i := 199) (by decide +kernel), List.mem_of_getElem? (i := 592) (by decide +kernel), List.mem_of_getElem? (i := 593) (by decide +kernel)⟩
theorem lw_p18 : lw_okq (⟨"OthersHands$Matchmaker", "sumWith", "(III)I"⟩, 3) := ⟨⟨by decide +kernel, by decide +kernel⟩, List.mem_of_getElem? (i := 199) (by decide +kernel), List.mem_of_getElem? (i := 597) (by decide +kernel), List.mem_of_getElem? (i := 598) (by decide +kernel)⟩
theorem lw_p19 : lw_okq (⟨"OthersHands$Matchmaker", "choose", "(I)V"⟩, 3) := ⟨⟨by decide +kernel, by decide +kernel⟩, List.mem_of_getElem? (i := 199) (by decide +kernel), List.mem_of_getElem? (i := 601) (by decide +kernel), List.mem_of_getElem? (i := 602) (by decide +kernel)⟩
theorem lw_p20 : lw_okq (⟨"OthersHands$Bread", "eats", "(I)Z"⟩, 3) := ⟨⟨by decide +kernel, by decide +kernel⟩, List.mem_of_getElem? (i := 181) (by decide +kernel), List.mem_of_getElem? (i := 614) (by decide +kernel), List.mem_of_getElem? (i := 615) (by decide +kernel)⟩
theorem lw_p21 : lw_okq (⟨"OthersHandsModel", "faultOf", "()I"⟩, 22) := ⟨⟨by decide +kernel, by decide +kernel⟩, List.mem_of_getElem? (i := 635) (by decide +kernel), List.mem_of_getElem? (i := 724) (by decide +kernel), List.mem_of_getElem? (i := 725) (by decide +kernel)⟩
theorem lw_p22 : lw_okq (⟨"OthersHandsModel", "isThing", "(I)Z"⟩, 22) := ⟨⟨by decide +kernel, by decide +kernel⟩, List.mem_of_getElem? (i := 635) (by decide +kernel), List.mem_of_getElem? (i := 736) (by decide +kernel), List.mem_of_getElem? (i := 737) (by decide +kernel)⟩
theorem lw_p23 : lw_okq (⟨"OthersHandsModel", "asTold", "()V"⟩, 22) := ⟨⟨by decide +kernel, by decide +kernel⟩, List.mem_of_getElem? (i := 635) (by decide +kernel), List.mem_of_getElem? (i := 763) (by decide +kernel), List.mem_of_getElem? (i := 764) (by decide +kernel)⟩
theorem lw_p24 : lw_okq (⟨"OthersHandsModel", "touchers", "(I)I"⟩, 22) := ⟨⟨by decide +kernel, by decide +kernel⟩, List.mem_of_getElem? (i := 635) (by decide +kernel), List.mem_of_getElem? (i := 767) (by decide +kernel), List.mem_of_getElem? (i := 768) (by decide +kernel)⟩
theorem lw_p25 : lw_okq (⟨"OthersHandsModel", "walk", "(I)V"⟩, 22) := ⟨⟨by decide +kernel, by decide +kernel⟩, List.mem_of_getElem? (i := 635) (by decide +kernel), List.mem_of_getElem? (i := 771) (by decide +kernel), List.mem_of_getElem? (i := 772) (by decide +kernel)⟩
theorem lw_p26 : lw_okq (⟨"OthersHandsModel", "barredFrom", "(I)I"⟩, 22) := ⟨⟨by decide +kernel, by decide +kernel⟩, List.mem_of_getElem? (i := 635) (by decide +kernel), List.mem_of_getElem? (i := 776) (by decide +kernel), List.mem_of_getElem? (i := 777) (by decide +kernel)⟩
theorem lw_p27 : lw_okq (⟨"OthersHandsModel", "withPartners", "(I)I"⟩, 22) := ⟨⟨by decide +kernel, by decide +kernel⟩, List.mem_of_getElem? (i := 635) (by decide +kernel), List.mem_of_getElem? (i := 780) (by decide +kernel), List.mem_of_getElem? (i := 781) (by decide +kernel)⟩
theorem lw_p28 : lw_okq (⟨"OthersHandsModel", "byTenths", "(I)I"⟩, 22) := ⟨⟨by decide +kernel, by decide +kernel⟩, List.mem_of_getElem? (i := 635) (by decide +kernel), List.mem_of_getElem? (i := 787) (by decide +kernel), List.mem_of_getElem? (i := 788) (by decide +kernel)⟩
theorem lw_p29 : lw_okq (⟨"OthersHandsModel", "shareOf", "(II)I"⟩, 22) := ⟨⟨by decide +kernel, by decide +kernel⟩, List.mem_of_getElem? (i := 635) (by decide +kernel), List.mem_of_getElem? (i := 791) (by decide +kernel), List.mem_of_getElem? (i := 792) (by decide +kernel)⟩
theorem lw_p30 : lw_okq (⟨"OthersHandsModel", "mayHave", "(I)I"⟩, 22) := ⟨⟨by decide +kernel, by decide +kernel⟩, List.mem_of_getElem? (i := 635) (by decide +kernel), List.mem_of_getElem? (i := 802) (by decide +kernel), List.mem_of_getElem? (i := 803) (by decide +kernel)⟩
theorem lw_p31 : lw_okq (⟨"OthersHandsModel", "nearTo", "(II)I"⟩, 22) := ⟨⟨by decide +kernel, by decide +kernel⟩, List.mem_of_getElem? (i := 635) (by decide +kernel), List.mem_of_getElem? (i := 810) (by decide +kernel), List.mem_of_getElem? (i := 811) (by decide +kernel)⟩
def lw_privs_2 : List (MethodName × Nat) := [(⟨"OthersHands$Matchmaker", "leastSum", "(I)I"⟩, 3), (⟨"OthersHands$Matchmaker", "bestOther", "(II)I"⟩, 3), (⟨"OthersHands$Matchmaker", "sumWith", "(III)I"⟩, 3), (⟨"OthersHands$Matchmaker", "choose", "(I)V"⟩, 3), (⟨"OthersHands$Bread", "eats", "(I)Z"⟩, 3), (⟨"OthersHandsModel", "faultOf", "()I"⟩, 22), (⟨"OthersHandsModel", "isThing", "(I)Z"⟩, 22), (⟨"OthersHandsModel", "asTold", "()V"⟩, 22), (⟨"OthersHandsModel", "touchers", "(I)I"⟩, 22), (⟨"OthersHandsModel", "walk", "(I)V"⟩, 22), (⟨"OthersHandsModel", "barredFrom", "(I)I"⟩, 22), (⟨"OthersHandsModel", "withPartners", "(I)I"⟩, 22), (⟨"OthersHandsModel", "byTenths", "(I)I"⟩, 22), (⟨"OthersHandsModel", "shareOf", "(II)I"⟩, 22), (⟨"OthersHandsModel", "mayHave", "(I)I"⟩, 22), (⟨"OthersHandsModel", "nearTo", "(II)I"⟩, 22)]
theorem lw_r2 : ∀ q ∈ lw_privs_2, lw_okq q := List.forall_mem_cons.mpr ⟨lw_p16, List.forall_mem_cons.mpr ⟨lw_p17, List.forall_mem_cons.mpr ⟨lw_p18, List.forall_mem_cons.mpr ⟨lw_p19, List.forall_mem_cons.mpr ⟨lw_p20, List.forall_mem_cons.mpr ⟨lw_p21, List.forall_mem_cons.mpr ⟨lw_p22, List.forall_mem_cons.mpr ⟨lw_p23, List.forall_mem_cons.mpr ⟨lw_p24, List.forall_mem_cons.mpr ⟨lw_p25, List.forall_mem_cons.mpr ⟨lw_p26, List.forall_mem_cons.mpr ⟨lw_p27, List.forall_mem_cons.mpr ⟨lw_p28, List.forall_mem_cons.mpr ⟨lw_p29, List.forall_mem_cons.mpr ⟨lw_p30, List.forall_mem_cons.mpr ⟨lw_p31, fun _ h => absurd h List.not_mem_nil⟩⟩⟩⟩⟩⟩⟩⟩⟩⟩⟩⟩⟩⟩⟩⟩
theorem lw_p32 : lw_okq (⟨"OthersHandsModel", "codes", "()I"⟩, 22) := ⟨⟨by decide +kernel, by decide +kernel⟩, List.mem_of_getElem? (i := 635) (by decide +kernel), List.mem_of_getElem? (i := 832) (by decide +kernel), List.mem_of_getElem? (i := 833) (by decide +kernel)⟩
theorem lw_p33 : lw_okq (⟨"OthersHandsModel", "opens", "()I"⟩, 22) := ⟨⟨by decide +kernel, by decide +kernel⟩, List.mem_of_getElem? (i := 635) (by decide +kernel), List.mem_of_getElem? (i := 836) (by decide +kernel), List.mem_of_getElem? (i := 837) (by decide +kernel)⟩
theorem lw_p34 : lw_okq (⟨"OthersHandsModel", "fill", "(I)Z"⟩, 22) := ⟨⟨by decide +kernel, by decide +kernel⟩, List.mem_of_getElem? (i := 635) (by decide +kernel), List.mem_of_getElem? (i := 840) (by decide +kernel), List.mem_of_getElem? (i := 841) (by decide +kernel)⟩
theorem lw_p35 : lw_okq (⟨"OthersHandsModel", "manAt", "(II)I"⟩, 22) := ⟨⟨by decide +kernel, by decide +kernel⟩, List.mem_of_getElem? (i := 635) (by decide +kernel), List.mem_of_getElem? (i := 844) (by decide +kernel), List.mem_of_getElem? (i := 845) (by decide +kernel)⟩
theorem lw_p36 : lw_okq (⟨"OthersHandsModel", "layMays", "()V"⟩, 22) := ⟨⟨by decide +kernel, by decide +kernel⟩, List.mem_of_getElem? (i := 635) (by decide +kernel), List.mem_of_getElem? (i := 856) (by decide +kernel), List.mem_of_getElem? (i := 857) (by decide +kernel)⟩
theorem lw_p37 : lw_okq (⟨"OthersHandsModel", "feeds", "(II)Z"⟩, 22) := ⟨⟨by decide +kernel, by decide +kernel⟩, List.mem_of_getElem? (i := 635) (by decide +kernel), List.mem_of_getElem? (i := 868) (by decide +kernel), List.mem_of_getElem? (i := 869) (by decide +kernel)⟩
theorem lw_p38 : lw_okq (⟨"OthersHandsModel", "allBarred", "()I"⟩, 22) := ⟨⟨by decide +kernel, by decide +kernel⟩, List.mem_of_getElem? (i := 635) (by decide +kernel), List.mem_of_getElem? (i := 880) (by decide +kernel), List.mem_of_getElem? (i := 881) (by decide +kernel)⟩
theorem lw_p39 : lw_okq (⟨"OthersHandsModel", "layPlan", "(I)Z"⟩, 22) := ⟨⟨by decide +kernel, by decide +kernel⟩, List.mem_of_getElem? (i := 635) (by decide +kernel), List.mem_of_getElem? (i := 885) (by decide +kernel), List.mem_of_getElem? (i := 886) (by decide +kernel)⟩
def lw_privs_3 : List (MethodName × Nat) := [(⟨"OthersHandsModel", "codes", "()I"⟩, 22), (⟨"OthersHandsModel", "opens", "()I"⟩, 22), (⟨"OthersHandsModel", "fill", "(I)Z"⟩, 22), (⟨"OthersHandsModel", "manAt", "(II)I"⟩, 22), (⟨"OthersHandsModel", "layMays", "()V"⟩, 22), (⟨"OthersHandsModel", "feeds", "(II)Z"⟩, 22), (⟨"OthersHandsModel", "allBarred", "()I"⟩, 22), (⟨"OthersHandsModel", "layPlan", "(I)Z"⟩, 22)]
theorem lw_r3 : ∀ q ∈ lw_privs_3, lw_okq q := List.forall_mem_cons.mpr ⟨lw_p32, List.forall_mem_cons.mpr ⟨lw_p33, List.forall_mem_cons.mpr ⟨lw_p34, List.forall_mem_cons.mpr ⟨lw_p35, List.forall_mem_cons.mpr ⟨lw_p36, List.forall_mem_cons.mpr ⟨lw_p37, List.forall_mem_cons.mpr ⟨lw_p38, List.forall_mem_cons.mpr ⟨lw_p39, fun _ h => absurd h List.not_mem_nil⟩⟩⟩⟩⟩⟩⟩⟩
def lw_privs : List (MethodName × Nat) := lw_privs_1 ++ (lw_privs_2 ++ (lw_privs_3))
def lw_tbl : List Cond := k2_sels lw_privs ++ tables_1
theorem lw_privs_ok : ∀ q ∈ lw_privs, lw_okq q := by
  show ∀ q ∈ lw_privs_1 ++ (lw_privs_2 ++ (lw_privs_3)), lw_okq q
  exact List.forall_mem_append.mpr ⟨lw_r1, List.forall_mem_append.mpr ⟨lw_r2, lw_r3⟩⟩
end
section
/-- the words that keep, and those of the nest -/
def zgt : List Cond := lw_tbl.filter goodWord
def zisN (w : Cond) : Bool := match w with
  | .methodLinkNest _ _ _ _ => true
  | _ => false
def zns : List Cond := lw_tbl.filter zisN
def zT_Bread : u_T := fun k => match k with
  | 0 => ("OthersHands$Bread", "lawful", "[I", true)
  | 1 => ("OthersHands$Bread", "left", "[I", true)
  | _ => ("OthersHands$Bread", "meal", "[I", true)
def zt_Bread : Nat → FieldType := fun k => match k with
  | 0 => .array .int
  | 1 => .array .int
  | _ => .array .int
theorem zn_Bread : ∀ a, a < 3 → ∀ b, b < 3 → a ≠ b → (zT_Bread a).2.1 ≠ (zT_Bread b).2.1 := by decide +kernel
theorem zo_Bread : ∀ k, k < 3 → parseFieldDescriptor (zT_Bread k).2.2.1 = some (zt_Bread k) := by decide +kernel
theorem zi_Bread : ∀ w ∈ u_ws "OthersHands$Bread" zT_Bread 3, w ∈ zgt := by decide +kernel
def zT_Filling : u_T := fun k => match k with
  | 0 => ("OthersHands$Filling", "making", "[I", true)
  | 1 => ("OthersHands$Filling", "choices", "[I", true)
  | 2 => ("OthersHands$Filling", "asks", "I", false)
  | _ => ("OthersHands$Filling", "toldHandsHold", "Z", false)
def zt_Filling : Nat → FieldType := fun k => match k with
  | 0 => .array .int
  | 1 => .array .int
  | 2 => .int
  | _ => .boolean
theorem zn_Filling : ∀ a, a < 4 → ∀ b, b < 4 → a ≠ b → (zT_Filling a).2.1 ≠ (zT_Filling b).2.1 := by decide +kernel
theorem zo_Filling : ∀ k, k < 4 → parseFieldDescriptor (zT_Filling k).2.2.1 = some (zt_Filling k) := by decide +kernel
theorem zi_Filling : ∀ w ∈ u_ws "OthersHands$Filling" zT_Filling 4, w ∈ zgt := by decide +kernel
def zT_Matchmaker : u_T := fun k => match k with
  | 0 => ("OthersHands$Matchmaker", "taint", "[I", true)
  | 1 => ("OthersHands$Matchmaker", "least", "[I", true)
  | _ => ("OthersHands$Matchmaker", "plan", "[I", true)
def zt_Matchmaker : Nat → FieldType := fun k => match k with
  | 0 => .array .int
  | 1 => .array .int
  | _ => .array .int
theorem zn_Matchmaker : ∀ a, a < 3 → ∀ b, b < 3 → a ≠ b → (zT_Matchmaker a).2.1 ≠ (zT_Matchmaker b).2.1 := by decide +kernel
theorem zo_Matchmaker : ∀ k, k < 3 → parseFieldDescriptor (zT_Matchmaker k).2.2.1 = some (zt_Matchmaker k) := by decide +kernel
theorem zi_Matchmaker : ∀ w ∈ u_ws "OthersHands$Matchmaker" zT_Matchmaker 3, w ∈ zgt := by decide +kernel
def zT_Pad : u_T := fun k => match k with
  | 0 => ("OthersHands$Pad", "signs", "[I", true)
  | _ => ("OthersHands$Pad", "count", "I", false)
def zt_Pad : Nat → FieldType := fun k => match k with
  | 0 => .array .int
  | _ => .int
theorem zn_Pad : ∀ a, a < 2 → ∀ b, b < 2 → a ≠ b → (zT_Pad a).2.1 ≠ (zT_Pad b).2.1 := by decide +kernel
theorem zo_Pad : ∀ k, k < 2 → parseFieldDescriptor (zT_Pad k).2.2.1 = some (zt_Pad k) := by decide +kernel
theorem zi_Pad : ∀ w ∈ u_ws "OthersHands$Pad" zT_Pad 2, w ∈ zgt := by decide +kernel
def zT_Pages : u_T := fun k => match k with
  | 0 => ("OthersHands$Pages", "hands", "[I", true)
  | 1 => ("OthersHands$Pages", "first", "[I", true)
  | 2 => ("OthersHands$Pages", "second", "[I", true)
  | 3 => ("OthersHands$Pages", "tool", "[I", true)
  | 4 => ("OthersHands$Pages", "asked", "[I", true)
  | _ => ("OthersHands$Pages", "count", "I", false)
def zt_Pages : Nat → FieldType := fun k => match k with
  | 0 => .array .int
  | 1 => .array .int
  | 2 => .array .int
  | 3 => .array .int
  | 4 => .array .int
  | _ => .int
theorem zn_Pages : ∀ a, a < 6 → ∀ b, b < 6 → a ≠ b → (zT_Pages a).2.1 ≠ (zT_Pages b).2.1 := by decide +kernel
theorem zo_Pages : ∀ k, k < 6 → parseFieldDescriptor (zT_Pages k).2.2.1 = some (zt_Pages k) := by decide +kernel
theorem zi_Pages : ∀ w ∈ u_ws "OthersHands$Pages" zT_Pages 6, w ∈ zgt := by decide +kernel
def zT_Reader : u_T := fun k => match k with
  | 0 => ("OthersHands$Reader", "draft", "LOthersHands$Pages;", true)
  | 1 => ("OthersHands$Reader", "stage", "I", false)
  | _ => ("OthersHands$Reader", "asks", "I", false)
def zt_Reader : Nat → FieldType := fun k => match k with
  | 0 => .object "OthersHands$Pages"
  | 1 => .int
  | _ => .int
theorem zn_Reader : ∀ a, a < 3 → ∀ b, b < 3 → a ≠ b → (zT_Reader a).2.1 ≠ (zT_Reader b).2.1 := by decide +kernel
theorem zo_Reader : ∀ k, k < 3 → parseFieldDescriptor (zT_Reader k).2.2.1 = some (zt_Reader k) := by decide +kernel
theorem zi_Reader : ∀ w ∈ u_ws "OthersHands$Reader" zT_Reader 3, w ∈ zgt := by decide +kernel
def zT_Shares : u_T := fun k => match k with
  | _ => ("OthersHands$Shares", "parts", "[I", true)
def zt_Shares : Nat → FieldType := fun k => match k with
  | _ => .array .int
theorem zn_Shares : ∀ a, a < 1 → ∀ b, b < 1 → a ≠ b → (zT_Shares a).2.1 ≠ (zT_Shares b).2.1 := by decide +kernel
theorem zo_Shares : ∀ k, k < 1 → parseFieldDescriptor (zT_Shares k).2.2.1 = some (zt_Shares k) := by decide +kernel
theorem zi_Shares : ∀ w ∈ u_ws "OthersHands$Shares" zT_Shares 1, w ∈ zgt := by decide +kernel
def zT_Town : u_T := fun k => match k with
  | 0 => ("OthersHands$Town", "pages", "LOthersHands$Pages;", true)
  | 1 => ("OthersHands$Town", "partner", "[I", true)
  | 2 => ("OthersHands$Town", "stock", "[I", true)
  | 3 => ("OthersHands$Town", "seer", "[I", true)
  | 4 => ("OthersHands$Town", "had", "[I", true)
  | 5 => ("OthersHands$Town", "sights", "I", false)
  | 6 => ("OthersHands$Town", "depth", "I", false)
  | 7 => ("OthersHands$Town", "tools", "I", false)
  | _ => ("OthersHands$Town", "tenths", "I", false)
def zt_Town : Nat → FieldType := fun k => match k with
  | 0 => .object "OthersHands$Pages"
  | 1 => .array .int
  | 2 => .array .int
  | 3 => .array .int
  | 4 => .array .int
  | 5 => .int
  | 6 => .int
  | 7 => .int
  | _ => .int
theorem zn_Town : ∀ a, a < 9 → ∀ b, b < 9 → a ≠ b → (zT_Town a).2.1 ≠ (zT_Town b).2.1 := by decide +kernel
theorem zo_Town : ∀ k, k < 9 → parseFieldDescriptor (zT_Town k).2.2.1 = some (zt_Town k) := by decide +kernel
theorem zi_Town : ∀ w ∈ u_ws "OthersHands$Town" zT_Town 9, w ∈ zgt := by decide +kernel
def zT_O : u_T := fun k => match k with
  | 0 => ("OthersHands", "pad", "LOthersHands$Pad;", true)
  | 1 => ("OthersHands", "reader", "LOthersHands$Reader;", true)
  | 2 => ("OthersHands", "town", "LOthersHands$Town;", true)
  | 3 => ("OthersHands", "images", "[LOthersHands$Town;", true)
  | 4 => ("OthersHands", "shares", "LOthersHands$Shares;", true)
  | 5 => ("OthersHands", "filling", "LOthersHands$Filling;", true)
  | 6 => ("OthersHands", "bread", "LOthersHands$Bread;", true)
  | _ => ("OthersHands", "matchmaker", "LOthersHands$Matchmaker;", true)
def zt_O : Nat → FieldType := fun k => match k with
  | 0 => .object "OthersHands$Pad"
  | 1 => .object "OthersHands$Reader"
  | 2 => .object "OthersHands$Town"
  | 3 => .array (.object "OthersHands$Town")
  | 4 => .object "OthersHands$Shares"
  | 5 => .object "OthersHands$Filling"
  | 6 => .object "OthersHands$Bread"
  | _ => .object "OthersHands$Matchmaker"
theorem zn_O : ∀ a, a < 8 → ∀ b, b < 8 → a ≠ b → (zT_O a).2.1 ≠ (zT_O b).2.1 := by decide +kernel
theorem zo_O : ∀ k, k < 8 → parseFieldDescriptor (zT_O k).2.2.1 = some (zt_O k) := by decide +kernel
theorem zi_O : ∀ w ∈ u_ws "OthersHands" zT_O 8, w ∈ zgt := by decide +kernel
def zT_X : u_T := fun k => match k with
  | 0 => ("OthersHandsModel", "depth", "I", false)
  | 1 => ("OthersHandsModel", "tools", "I", false)
  | 2 => ("OthersHandsModel", "tenths", "I", false)
  | 3 => ("OthersHandsModel", "partner", "[I", true)
  | 4 => ("OthersHandsModel", "signs", "I", false)
  | 5 => ("OthersHandsModel", "pad", "[I", true)
  | 6 => ("OthersHandsModel", "things", "I", false)
  | 7 => ("OthersHandsModel", "made", "[I", true)
  | 8 => ("OthersHandsModel", "loaf", "[I", true)
  | 9 => ("OthersHandsModel", "sights", "I", false)
  | 10 => ("OthersHandsModel", "sight", "[I", true)
  | 11 => ("OthersHandsModel", "hands", "[I", true)
  | 12 => ("OthersHandsModel", "steps", "[I", true)
  | 13 => ("OthersHandsModel", "shares", "[I", true)
  | 14 => ("OthersHandsModel", "mays", "[I", true)
  | 15 => ("OthersHandsModel", "eats", "[I", true)
  | 16 => ("OthersHandsModel", "best", "[I", true)
  | 17 => ("OthersHandsModel", "left", "[I", true)
  | 18 => ("OthersHandsModel", "kept", "[I", true)
  | 19 => ("OthersHandsModel", "plan", "[I", true)
  | 20 => ("OthersHandsModel", "image", "[I", true)
  | _ => ("OthersHandsModel", "isKept", "[Z", true)
def zt_X : Nat → FieldType := fun k => match k with
  | 0 => .int
  | 1 => .int
  | 2 => .int
  | 3 => .array .int
  | 4 => .int
  | 5 => .array .int
  | 6 => .int
  | 7 => .array .int
  | 8 => .array .int
  | 9 => .int
  | 10 => .array .int
  | 11 => .array .int
  | 12 => .array .int
  | 13 => .array .int
  | 14 => .array .int
  | 15 => .array .int
  | 16 => .array .int
  | 17 => .array .int
  | 18 => .array .int
  | 19 => .array .int
  | 20 => .array .int
  | _ => .array .boolean
theorem zn_X : ∀ a, a < 22 → ∀ b, b < 22 → a ≠ b → (zT_X a).2.1 ≠ (zT_X b).2.1 := by decide +kernel
theorem zo_X : ∀ k, k < 22 → parseFieldDescriptor (zT_X k).2.2.1 = some (zt_X k) := by decide +kernel
theorem zi_X : ∀ w ∈ u_ws "OthersHandsModel" zT_X 22, w ∈ zgt := by decide +kernel
abbrev zCL : List vw_C := [("OthersHands$Bread", zT_Bread, 3), ("OthersHands$Filling", zT_Filling, 4), ("OthersHands$Matchmaker", zT_Matchmaker, 3), ("OthersHands$Pad", zT_Pad, 2), ("OthersHands$Pages", zT_Pages, 6), ("OthersHands$Reader", zT_Reader, 3), ("OthersHands$Shares", zT_Shares, 1), ("OthersHands$Town", zT_Town, 9), ("OthersHands", zT_O, 8), ("OthersHandsModel", zT_X, 22)]
end
section
/-! THE MACHINE SEEN SMALL: a heap is a list of kinds (positions, not addresses) and the numbers in it; a method's contract says what it answers and what heap it leaves. -/
abbrev zMem : Type := Nat → Nat → Int32
abbrev zShp : Type := (Nat × Nat) ⊕ ((Nat × List (Option (Option Nat))) ⊕ (Nat × (Nat → Option Nat)))
abbrev zCy : Type := ClassId × ClassId × ClassId
abbrev zMI : Type := MethodName × ByteArray × Nat × Option FieldType × Nat × Nat
abbrev zEnd : Type := Option Value → List zShp → zMem → Prop
def zv (B : Nat) (v : Value) : Value := match v with
  | .ref k => .ref (B + k)
  | w => w
def zms (M : zMem) (p i : Nat) (v : Int32) : zMem := fun a b => if a = p then (if b = i then v else M a b) else M a b
def zmr (M : zMem) (p : Nat) (f : Nat → Int32) : zMem := fun a b => if a = p then f b else M a b
def zfv (r : Nat → Int32) (j : Nat) (x : Option (Option Nat)) : Value := match x with
  | none => .int (r j)
  | some q => va_rf q
def zc (cy : zCy) (B : Nat) (r : Nat → Int32) (c : zShp) : va_E := match c with
  | .inl (0, n) => .inl (cy.1, n, .inl r)
  | .inl (_ + 1, n) => .inl (cy.2.1, n, .inl r)
  | .inr (.inl (ci, fs)) => .inr (ci, fs.mapIdx (fun j x => zv B (zfv r j x)))
  | .inr (.inr (n, g)) => .inl (cy.2.2, n, .inr (.inr (.inr (.inr (fun j => (g j).map (B + ·))))))
def zw (cy : zCy) (B : Nat) (sh : List zShp) (M : zMem) : va_W := sh.mapIdx (fun k c => (B + k, zc cy B (M k) c))
def zTY (cy : zCy) : List (ClassId × FieldType) := [(cy.1, .int), (cy.2.1, .boolean), (cy.2.2, .object "OthersHands$Town")]
def zws (μ : zMI) : List Cond := .code μ.1 μ.2.1 μ.2.2.1 μ.2.2.2.1 :: zgt
/-- the words of the nest, and the class of Town's rows -/
def zNx (U : State) : Prop := (∀ w ∈ zns, va_Nw w U) ∧ va_AO "OthersHands$Town" U
def zCx (μ : zMI) (p : Program) (Rm : Room) (s : State) (m : MethodId) (args : Array Value) (meth : Method) (c : Code) : Prop :=
  p.tables.exec = Jvm.exec ∧ c.code = μ.2.1 ∧ meth.sig.returnType = μ.2.2.2.1 ∧ c.maxLocals = μ.2.2.1 ∧ s.vm.findClass μ.1.cls = some m.cls ∧ (∀ w ∈ zgt, w.before args s = true) ∧ meth.locks = false ∧ meth.name = μ.1.name ∧ μ.2.2.2.2.1 ≤ Rm.frames ∧ μ.2.2.2.2.2 ≤ Rm.locals ∧ zNx s
def zWd (D : va_G) (cy : zCy) (B : Nat) (s : State) (H : Heap) (locs : List Loc) (cells : Nat) (sh : List zShp) (M : zMem) : Prop :=
  va_K D zCL (zTY cy) s ∧ va_P D zCL (zw cy B sh M) H ∧ H.size = B + sh.length ∧ s.heap.size + cells = H.size ∧ va_S (fun q => B ≤ q) s.heap H locs ∧ B ≤ s.heap.size
def zQC (D : va_G) (cy : zCy) (B kc : Nat) (R : zEnd) : Array Value → State → Outcome → State → Prop := fun _ st oc t =>
  (∃ (v : Option Value) (sh : List zShp) (M : zMem), oc = .returned (v.map (zv B)) ∧ R v sh M ∧ va_K D zCL (zTY cy) t ∧ va_P D zCL (zw cy B sh M) t.heap ∧ t.heap.size = B + sh.length) ∧ va_F (fun q => B ≤ q) st t ∧ t.heap.size = st.heap.size + kc
def zPre (D : va_G) (cy : zCy) (B : Nat) (as : List Value) (sh : List zShp) (M : zMem) : Array Value → State → Prop := va_Pc (as.map (zv B)) (fun U => va_K D zCL (zTY cy) U ∧ va_P D zCL (zw cy B sh M) U.heap ∧ U.heap.size = B + sh.length ∧ zNx U)
/-- a method's contract: called with these on this heap it returns, and R holds of its answer and the heap behind it; at most kc cells of ks slots are new -/
def zEx (μ : zMI) (kc ks : Nat) (as : List Value) (sh : List zShp) (M : zMem) (R : zEnd) : Prop :=
  ∀ (l : Launch) (D : va_G) (cy : zCy) (B : Nat), Met l μ.1 (zws μ) { frames := μ.2.2.2.2.1, cells := kc, slots := ks, locals := μ.2.2.2.2.2 } (zPre D cy B as sh M) (zQC D cy B kc R) kc ks (fun q => B ≤ q)
/-- from this place the method returns with R -/
def zRT (μ : zMI) (kc ks : Nat) (pc : Nat) (lv : List (Nat × Value)) (st : List Value) (sh : List zShp) (M : zMem) (R : zEnd) : Prop :=
  ∀ (p : Program) (l : Launch) (e : Env) (Rm : Room) (s : State) (m : MethodId) (args : Array Value) (below : List Frame) (meth : Method) (c : Code) (H : Heap) (locs : List Loc) (cells slots : Nat) (D : va_G) (cy : zCy) (B : Nat) (ls : Array Slot),
    zCx μ p Rm s m args meth c → zWd D cy B s H locs cells sh M → cells + kc = Rm.cells → slots + ks ≤ Rm.slots → lv_has ls μ.2.2.1 (lv.map (fun q => (q.1, zv B q.2))) →
    W p l e Rm s m args below meth c H locs cells slots (MQ below (zQC D cy B Rm.cells R) args s Rm.cells Rm.slots (fun q => B ≤ q)) (F0 m pc ls (st.map (zv B)))
theorem zv_int (B : Nat) (x : Int32) : zv B (.int x) = .int x := rfl
theorem zv_rf (B : Nat) (r : Option Nat) : zv B (va_rf r) = va_rf (r.map (B + ·)) := by cases r <;> rfl
theorem zw_at {cy : zCy} {B : Nat} {sh : List zShp} {M : zMem} {o : Nat} {c : zShp} (h : sh[o]? = some c) : (zw cy B sh M)[o]? = some (B + o, zc cy B (M o) c) := by
  simp [zw, List.getElem?_mapIdx, h]
theorem zw_len (cy : zCy) (B : Nat) (sh : List zShp) (M : zMem) : (zw cy B sh M).length = sh.length := by simp [zw]
theorem zw_D (cy : zCy) (B : Nat) (sh : List zShp) (M : zMem) : va_D (fun q => B ≤ q) (zw cy B sh M) := by
  have h : ∀ (i : Nat) (p : Nat × va_E), (zw cy B sh M)[i]? = some p → p.1 = B + i := by
    intro i p hp
    simp only [zw, List.getElem?_mapIdx, Option.map_eq_some_iff] at hp
    obtain ⟨c, -, rfl⟩ := hp
    rfl
  refine ⟨fun i j p q hp hq e => ?_, fun k q hq => ?_⟩
  · have h1 := h i p hp
    have h2 := h j q hq
    omega
  · have h1 := h k q hq
    show B ≤ q.1
    omega
theorem zw_set {cy : zCy} {B : Nat} {sh : List zShp} {M M' : zMem} {o : Nat} {c c' : zShp} (h : sh[o]? = some c) (hM : ∀ k, k ≠ o → M' k = M k) : zw cy B (sh.set o c') M' = (zw cy B sh M).set o (B + o, zc cy B (M' o) c') := by
  have hl : o < sh.length := (List.getElem?_eq_some_iff.mp h).1
  refine List.ext_getElem? fun k => ?_
  by_cases hk : o = k
  · subst hk
    simp [zw, List.getElem?_mapIdx, List.getElem?_set, hl]
  · simp only [zw, List.getElem?_mapIdx, List.getElem?_set, if_neg hk, hM k (fun q => hk q.symm)]
theorem zw_same {cy : zCy} {B : Nat} {sh : List zShp} {M M' : zMem} {o : Nat} {c : zShp} (h : sh[o]? = some c) (hM : ∀ k, k ≠ o → M' k = M k) : zw cy B sh M' = (zw cy B sh M).set o (B + o, zc cy B (M' o) c) := by
  have h1 : sh.set o c = sh := by
    refine List.ext_getElem? fun k => ?_
    by_cases hk : o = k
    · subst hk
      rw [List.getElem?_set_self (List.getElem?_eq_some_iff.mp h).1, h]
    · rw [List.getElem?_set_ne hk]
  have h2 := zw_set (cy := cy) (B := B) (c' := c) h hM
  rw [h1] at h2
  exact h2
theorem zw_push (cy : zCy) (B : Nat) (sh : List zShp) (M : zMem) (c : zShp) (f : Nat → Int32) : zw cy B (sh ++ [c]) (zmr M sh.length f) = zw cy B sh M ++ [(B + sh.length, zc cy B f c)] := by
  refine List.ext_getElem? fun k => ?_
  rcases Nat.lt_trichotomy k sh.length with h | h | h
  · rw [List.getElem?_append_left (by rw [zw_len]; exact h)]
    have hr : zmr M sh.length f k = M k := by funext b; simp [zmr, Nat.ne_of_lt h]
    simp only [zw, List.getElem?_mapIdx, List.getElem?_append_left h, hr]
  · subst h
    rw [List.getElem?_append_right (by rw [zw_len]; exact Nat.le_refl _), zw_len]
    have hr : zmr M sh.length f sh.length = f := by funext b; simp [zmr]
    simp [zw, List.getElem?_mapIdx, hr]
  · rw [List.getElem?_eq_none (by simp [zw]; omega), List.getElem?_eq_none (by simp [zw]; omega)]
theorem zms_ne (M : zMem) (p i : Nat) (v : Int32) : ∀ k, k ≠ p → zms M p i v k = M k := fun k h => by funext b; simp [zms, h]
theorem zms_row (M : zMem) (p i : Nat) (v : Int32) : zms M p i v p = upd (M p) i v := by funext b; simp [zms, upd]
theorem zmr_ne (M : zMem) (p : Nat) (f : Nat → Int32) : ∀ k, k ≠ p → zmr M p f k = M k := fun k h => by funext b; simp [zmr, h]
theorem zmr_row (M : zMem) (p : Nat) (f : Nat → Int32) : zmr M p f p = f := by funext b; simp [zmr]
theorem zc_fs {B : Nat} {r : Nat → Int32} {fs : List (Option (Option Nat))} {k : Nat} {v : Int32} (hk : fs[k]? = some none) : fs.mapIdx (fun j x => zv B (zfv (upd r k v) j x)) = (fs.mapIdx (fun j x => zv B (zfv r j x))).set k (.int v) := by
  have hl : k < fs.length := (List.getElem?_eq_some_iff.mp hk).1
  refine List.ext_getElem? fun j => ?_
  by_cases hj : k = j
  · subst hj
    rw [List.getElem?_set_self (by simp; exact hl), List.getElem?_mapIdx, hk]
    simp [zfv, zv, upd]
  · rw [List.getElem?_set_ne hj]
    simp only [List.getElem?_mapIdx]
    congr 1
    funext x
    cases x with
    | none => simp only [zfv, upd, if_neg (fun q : j = k => hj q.symm)]
    | some q => rfl
theorem zc_fr {B : Nat} {r : Nat → Int32} {fs : List (Option (Option Nat))} {k : Nat} (q : Option Nat) (hl : k < fs.length) : (fs.set k (some q)).mapIdx (fun j x => zv B (zfv r j x)) = (fs.mapIdx (fun j x => zv B (zfv r j x))).set k (zv B (va_rf q)) := by
  refine List.ext_getElem? fun j => ?_
  by_cases hj : k = j
  · subst hj
    simp [List.getElem?_mapIdx, List.getElem?_set, hl, zfv]
  · rw [List.getElem?_set_ne hj]
    simp only [List.getElem?_mapIdx, List.getElem?_set_ne hj]

theorem zs_iconst {μ : zMI} {kc ks pc : Nat} {lv : List (Nat × Value)} {st : List Value} {sh : List zShp} {M : zMem} {R : zEnd} {n : Int} (v : Int32) (hd : decode μ.2.1 pc = .ok (.iconst n, 1)) (hv : Int32.ofInt n = v) (k : (zRT μ kc ks (pc + 1) lv (.int v :: st) sh M R)) : (zRT μ kc ks (pc) lv (st) sh M R) := by
  intro p l e Rm s m args below meth c H locs cells slots D cy B ls C V hc hs hl
  exact lv_iconst C.1 C.2.1 hd hv (k p l e Rm s m args below meth c H locs cells slots D cy B ls C V hc hs hl)
theorem zs_bipush {μ : zMI} {kc ks pc : Nat} {lv : List (Nat × Value)} {st : List Value} {sh : List zShp} {M : zMem} {R : zEnd} {n : Int} (v : Int32) (hd : decode μ.2.1 pc = .ok (.bipush n, 2)) (hv : (Int8.ofInt n).toInt32 = v) (k : (zRT μ kc ks (pc + 2) lv (.int v :: st) sh M R)) : (zRT μ kc ks (pc) lv (st) sh M R) := by
  intro p l e Rm s m args below meth c H locs cells slots D cy B ls C V hc hs hl
  exact lv_bipush C.1 C.2.1 hd hv (k p l e Rm s m args below meth c H locs cells slots D cy B ls C V hc hs hl)
theorem zs_sipush {μ : zMI} {kc ks pc : Nat} {lv : List (Nat × Value)} {st : List Value} {sh : List zShp} {M : zMem} {R : zEnd} {n : Int} (v : Int32) (hd : decode μ.2.1 pc = .ok (.sipush n, 3)) (hv : (Int16.ofInt n).toInt32 = v) (k : (zRT μ kc ks (pc + 3) lv (.int v :: st) sh M R)) : (zRT μ kc ks (pc) lv (st) sh M R) := by
  intro p l e Rm s m args below meth c H locs cells slots D cy B ls C V hc hs hl
  exact lv_sipush C.1 C.2.1 hd hv (k p l e Rm s m args below meth c H locs cells slots D cy B ls C V hc hs hl)
theorem zs_iload_n {μ : zMI} {kc ks pc : Nat} {lv : List (Nat × Value)} {st : List Value} {sh : List zShp} {M : zMem} {R : zEnd} {n : Fin 4} (j : Nat) {x : Int32} (hd : decode μ.2.1 pc = .ok (.iload_n n, 1)) (hn : (n : Nat) = j) (hi : (j, Value.int x) ∈ lv) (k : (zRT μ kc ks (pc + 1) lv (.int x :: st) sh M R)) : (zRT μ kc ks (pc) lv (st) sh M R) := by
  intro p l e Rm s m args below meth c H locs cells slots D cy B ls C V hc hs hl
  exact lv_iload_n C.1 C.2.1 hd hn (hl.2.2 (j, .int x) (List.mem_map.mpr ⟨_, hi, rfl⟩)) (k p l e Rm s m args below meth c H locs cells slots D cy B ls C V hc hs hl)
theorem zs_iload {μ : zMI} {kc ks pc : Nat} {lv : List (Nat × Value)} {st : List Value} {sh : List zShp} {M : zMem} {R : zEnd} {j : Nat} {x : Int32} (hd : decode μ.2.1 pc = .ok (.iload j, 2)) (hi : (j, Value.int x) ∈ lv) (k : (zRT μ kc ks (pc + 2) lv (.int x :: st) sh M R)) : (zRT μ kc ks (pc) lv (st) sh M R) := by
  intro p l e Rm s m args below meth c H locs cells slots D cy B ls C V hc hs hl
  exact lv_iload C.1 C.2.1 hd (hl.2.2 (j, .int x) (List.mem_map.mpr ⟨_, hi, rfl⟩)) (k p l e Rm s m args below meth c H locs cells slots D cy B ls C V hc hs hl)
theorem zs_aload_n {μ : zMI} {kc ks pc : Nat} {lv : List (Nat × Value)} {st : List Value} {sh : List zShp} {M : zMem} {R : zEnd} {n : Fin 4} (j : Nat) {x : Nat} (hd : decode μ.2.1 pc = .ok (.aload_n n, 1)) (hn : (n : Nat) = j) (hi : (j, Value.ref x) ∈ lv) (k : (zRT μ kc ks (pc + 1) lv (.ref x :: st) sh M R)) : (zRT μ kc ks (pc) lv (st) sh M R) := by
  intro p l e Rm s m args below meth c H locs cells slots D cy B ls C V hc hs hl
  exact lv_aload_n C.1 C.2.1 hd hn (hl.2.2 (j, .ref (B + x)) (List.mem_map.mpr ⟨_, hi, rfl⟩)) (k p l e Rm s m args below meth c H locs cells slots D cy B ls C V hc hs hl)
theorem zs_aload {μ : zMI} {kc ks pc : Nat} {lv : List (Nat × Value)} {st : List Value} {sh : List zShp} {M : zMem} {R : zEnd} {j : Nat} {x : Nat} (hd : decode μ.2.1 pc = .ok (.aload j, 2)) (hi : (j, Value.ref x) ∈ lv) (k : (zRT μ kc ks (pc + 2) lv (.ref x :: st) sh M R)) : (zRT μ kc ks (pc) lv (st) sh M R) := by
  intro p l e Rm s m args below meth c H locs cells slots D cy B ls C V hc hs hl
  exact lv_aload C.1 C.2.1 hd (hl.2.2 (j, .ref (B + x)) (List.mem_map.mpr ⟨_, hi, rfl⟩)) (k p l e Rm s m args below meth c H locs cells slots D cy B ls C V hc hs hl)
theorem zs_aload_nN {μ : zMI} {kc ks pc : Nat} {lv : List (Nat × Value)} {st : List Value} {sh : List zShp} {M : zMem} {R : zEnd} {n : Fin 4} (j : Nat) (hd : decode μ.2.1 pc = .ok (.aload_n n, 1)) (hn : (n : Nat) = j) (hi : (j, Value.null) ∈ lv) (k : (zRT μ kc ks (pc + 1) lv (.null :: st) sh M R)) : (zRT μ kc ks (pc) lv (st) sh M R) := by
  intro p l e Rm s m args below meth c H locs cells slots D cy B ls C V hc hs hl
  exact lv_aload_nN C.1 C.2.1 hd hn (hl.2.2 (j, .null) (List.mem_map.mpr ⟨_, hi, rfl⟩)) (k p l e Rm s m args below meth c H locs cells slots D cy B ls C V hc hs hl)
def zsto (lv : List (Nat × Value)) (j : Nat) (v : Value) : List (Nat × Value) := (j, v) :: lv.filter (fun q => !(q.1 == j) && !(q.1 + 1 == j && q.2.category == 2))
theorem zv_cat (B : Nat) (v : Value) : (zv B v).category = v.category := by cases v <;> rfl
theorem zsto_map (B : Nat) (lv : List (Nat × Value)) (j : Nat) (v : Value) : (j, zv B v) :: (lv.map (fun q => (q.1, zv B q.2))).filter (fun q => !(q.1 == j) && !(q.1 + 1 == j && q.2.category == 2)) = (zsto lv j v).map (fun q => (q.1, zv B q.2)) := by
  simp [zsto, List.filter_map, Function.comp_def, zv_cat]
theorem zs_istore_n {μ : zMI} {kc ks pc : Nat} {lv : List (Nat × Value)} {st : List Value} {sh : List zShp} {M : zMem} {R : zEnd} {n : Fin 4} (j : Nat) {x : Int32} (lv2 : List (Nat × Value)) (hd : decode μ.2.1 pc = .ok (.istore_n n, 1)) (hn : (n : Nat) = j) (hj : j < μ.2.2.1) (hlv : zsto lv j (.int x) = lv2) (k : (zRT μ kc ks (pc + 1) lv2 (st) sh M R)) : (zRT μ kc ks (pc) lv (.int x :: st) sh M R) := by
  intro p l e Rm s m args below meth c H locs cells slots D cy B ls C V hc hs hl
  subst hlv
  exact lv_istore_n C.1 C.2.1 hd hn hl hj (zsto_map B lv j (.int x)) (fun ls2 hl2 => k p l e Rm s m args below meth c H locs cells slots D cy B ls2 C V hc hs hl2)
theorem zs_istore {μ : zMI} {kc ks pc : Nat} {lv : List (Nat × Value)} {st : List Value} {sh : List zShp} {M : zMem} {R : zEnd} {j : Nat} {x : Int32} (lv2 : List (Nat × Value)) (hd : decode μ.2.1 pc = .ok (.istore j, 2)) (hj : j < μ.2.2.1) (hlv : zsto lv j (.int x) = lv2) (k : (zRT μ kc ks (pc + 2) lv2 (st) sh M R)) : (zRT μ kc ks (pc) lv (.int x :: st) sh M R) := by
  intro p l e Rm s m args below meth c H locs cells slots D cy B ls C V hc hs hl
  subst hlv
  exact lv_istore C.1 C.2.1 hd hl hj (zsto_map B lv j (.int x)) (fun ls2 hl2 => k p l e Rm s m args below meth c H locs cells slots D cy B ls2 C V hc hs hl2)
theorem zs_astore_n {μ : zMI} {kc ks pc : Nat} {lv : List (Nat × Value)} {st : List Value} {sh : List zShp} {M : zMem} {R : zEnd} {n : Fin 4} (j : Nat) {x : Nat} (lv2 : List (Nat × Value)) (hd : decode μ.2.1 pc = .ok (.astore_n n, 1)) (hn : (n : Nat) = j) (hj : j < μ.2.2.1) (hlv : zsto lv j (.ref x) = lv2) (k : (zRT μ kc ks (pc + 1) lv2 (st) sh M R)) : (zRT μ kc ks (pc) lv (.ref x :: st) sh M R) := by
  intro p l e Rm s m args below meth c H locs cells slots D cy B ls C V hc hs hl
  subst hlv
  exact lv_astore_n C.1 C.2.1 hd hn hl hj (zsto_map B lv j (.ref x)) (fun ls2 hl2 => k p l e Rm s m args below meth c H locs cells slots D cy B ls2 C V hc hs hl2)
theorem zs_astore {μ : zMI} {kc ks pc : Nat} {lv : List (Nat × Value)} {st : List Value} {sh : List zShp} {M : zMem} {R : zEnd} {j : Nat} {x : Nat} (lv2 : List (Nat × Value)) (hd : decode μ.2.1 pc = .ok (.astore j, 2)) (hj : j < μ.2.2.1) (hlv : zsto lv j (.ref x) = lv2) (k : (zRT μ kc ks (pc + 2) lv2 (st) sh M R)) : (zRT μ kc ks (pc) lv (.ref x :: st) sh M R) := by
  intro p l e Rm s m args below meth c H locs cells slots D cy B ls C V hc hs hl
  subst hlv
  exact lv_astore C.1 C.2.1 hd hl hj (zsto_map B lv j (.ref x)) (fun ls2 hl2 => k p l e Rm s m args below meth c H locs cells slots D cy B ls2 C V hc hs hl2)
theorem zs_astore_nN {μ : zMI} {kc ks pc : Nat} {lv : List (Nat × Value)} {st : List Value} {sh : List zShp} {M : zMem} {R : zEnd} {n : Fin 4} (j : Nat) (lv2 : List (Nat × Value)) (hd : decode μ.2.1 pc = .ok (.astore_n n, 1)) (hn : (n : Nat) = j) (hj : j < μ.2.2.1) (hlv : zsto lv j .null = lv2) (k : (zRT μ kc ks (pc + 1) lv2 (st) sh M R)) : (zRT μ kc ks (pc) lv (.null :: st) sh M R) := by
  intro p l e Rm s m args below meth c H locs cells slots D cy B ls C V hc hs hl
  subst hlv
  exact lv_astore_nN C.1 C.2.1 hd hn hl hj (zsto_map B lv j .null) (fun ls2 hl2 => k p l e Rm s m args below meth c H locs cells slots D cy B ls2 C V hc hs hl2)
theorem zs_iinc {μ : zMI} {kc ks pc : Nat} {lv : List (Nat × Value)} {st : List Value} {sh : List zShp} {M : zMem} {R : zEnd} {j : Nat} {n : Int} {x : Int32} (i : Nat) (v : Int32) (lv2 : List (Nat × Value)) (hd : decode μ.2.1 pc = .ok (.iinc j n, 3)) (hi : lv[i]? = some (j, .int x)) (hv : x + Int32.ofInt n = v) (hj : j < μ.2.2.1) (hlv : zsto lv j (.int v) = lv2) (k : (zRT μ kc ks (pc + 3) lv2 (st) sh M R)) : (zRT μ kc ks (pc) lv (st) sh M R) := by
  intro p l e Rm s m args below meth c H locs cells slots D cy B ls C V hc hs hl
  subst hlv
  exact lv_iinc (k := i) C.1 C.2.1 hd hl (by rw [List.getElem?_map, hi]; rfl) hv hj (zsto_map B lv j (.int v)) (fun ls2 hl2 => k p l e Rm s m args below meth c H locs cells slots D cy B ls2 C V hc hs hl2)
theorem zs_iadd {μ : zMI} {kc ks pc : Nat} {lv : List (Nat × Value)} {st : List Value} {sh : List zShp} {M : zMem} {R : zEnd} {x y : Int32} (hd : decode μ.2.1 pc = .ok (.iadd, 1))  (k : (zRT μ kc ks (pc + 1) lv (.int (x + y) :: st) sh M R)) : (zRT μ kc ks (pc) lv (.int y :: .int x :: st) sh M R) := by
  intro p l e Rm s m args below meth c H locs cells slots D cy B ls C V hc hs hl
  exact lv_iadd C.1 C.2.1 hd  (k p l e Rm s m args below meth c H locs cells slots D cy B ls C V hc hs hl)
theorem zs_isub {μ : zMI} {kc ks pc : Nat} {lv : List (Nat × Value)} {st : List Value} {sh : List zShp} {M : zMem} {R : zEnd} {x y : Int32} (hd : decode μ.2.1 pc = .ok (.isub, 1))  (k : (zRT μ kc ks (pc + 1) lv (.int (x - y) :: st) sh M R)) : (zRT μ kc ks (pc) lv (.int y :: .int x :: st) sh M R) := by
  intro p l e Rm s m args below meth c H locs cells slots D cy B ls C V hc hs hl
  exact lv_isub C.1 C.2.1 hd  (k p l e Rm s m args below meth c H locs cells slots D cy B ls C V hc hs hl)
theorem zs_imul {μ : zMI} {kc ks pc : Nat} {lv : List (Nat × Value)} {st : List Value} {sh : List zShp} {M : zMem} {R : zEnd} {x y : Int32} (hd : decode μ.2.1 pc = .ok (.imul, 1))  (k : (zRT μ kc ks (pc + 1) lv (.int (x * y) :: st) sh M R)) : (zRT μ kc ks (pc) lv (.int y :: .int x :: st) sh M R) := by
  intro p l e Rm s m args below meth c H locs cells slots D cy B ls C V hc hs hl
  exact lv_imul C.1 C.2.1 hd  (k p l e Rm s m args below meth c H locs cells slots D cy B ls C V hc hs hl)
theorem zs_iand {μ : zMI} {kc ks pc : Nat} {lv : List (Nat × Value)} {st : List Value} {sh : List zShp} {M : zMem} {R : zEnd} {x y : Int32} (hd : decode μ.2.1 pc = .ok (.iand, 1))  (k : (zRT μ kc ks (pc + 1) lv (.int (x &&& y) :: st) sh M R)) : (zRT μ kc ks (pc) lv (.int y :: .int x :: st) sh M R) := by
  intro p l e Rm s m args below meth c H locs cells slots D cy B ls C V hc hs hl
  exact lv_iand C.1 C.2.1 hd  (k p l e Rm s m args below meth c H locs cells slots D cy B ls C V hc hs hl)
theorem zs_ior {μ : zMI} {kc ks pc : Nat} {lv : List (Nat × Value)} {st : List Value} {sh : List zShp} {M : zMem} {R : zEnd} {x y : Int32} (hd : decode μ.2.1 pc = .ok (.ior, 1))  (k : (zRT μ kc ks (pc + 1) lv (.int (x ||| y) :: st) sh M R)) : (zRT μ kc ks (pc) lv (.int y :: .int x :: st) sh M R) := by
  intro p l e Rm s m args below meth c H locs cells slots D cy B ls C V hc hs hl
  exact lv_ior C.1 C.2.1 hd  (k p l e Rm s m args below meth c H locs cells slots D cy B ls C V hc hs hl)
theorem zs_ixor {μ : zMI} {kc ks pc : Nat} {lv : List (Nat × Value)} {st : List Value} {sh : List zShp} {M : zMem} {R : zEnd} {x y : Int32} (hd : decode μ.2.1 pc = .ok (.ixor, 1))  (k : (zRT μ kc ks (pc + 1) lv (.int (x ^^^ y) :: st) sh M R)) : (zRT μ kc ks (pc) lv (.int y :: .int x :: st) sh M R) := by
  intro p l e Rm s m args below meth c H locs cells slots D cy B ls C V hc hs hl
  exact lv_ixor C.1 C.2.1 hd  (k p l e Rm s m args below meth c H locs cells slots D cy B ls C V hc hs hl)
theorem zs_ishl {μ : zMI} {kc ks pc : Nat} {lv : List (Nat × Value)} {st : List Value} {sh : List zShp} {M : zMem} {R : zEnd} {x y : Int32} (hd : decode μ.2.1 pc = .ok (.ishl, 1))  (k : (zRT μ kc ks (pc + 1) lv (.int (x <<< (y &&& 31)) :: st) sh M R)) : (zRT μ kc ks (pc) lv (.int y :: .int x :: st) sh M R) := by
  intro p l e Rm s m args below meth c H locs cells slots D cy B ls C V hc hs hl
  exact lv_ishl C.1 C.2.1 hd  (k p l e Rm s m args below meth c H locs cells slots D cy B ls C V hc hs hl)
theorem zs_ishr {μ : zMI} {kc ks pc : Nat} {lv : List (Nat × Value)} {st : List Value} {sh : List zShp} {M : zMem} {R : zEnd} {x y : Int32} (hd : decode μ.2.1 pc = .ok (.ishr, 1))  (k : (zRT μ kc ks (pc + 1) lv (.int (x >>> (y &&& 31)) :: st) sh M R)) : (zRT μ kc ks (pc) lv (.int y :: .int x :: st) sh M R) := by
  intro p l e Rm s m args below meth c H locs cells slots D cy B ls C V hc hs hl
  exact lv_ishr C.1 C.2.1 hd  (k p l e Rm s m args below meth c H locs cells slots D cy B ls C V hc hs hl)
theorem zs_idiv {μ : zMI} {kc ks pc : Nat} {lv : List (Nat × Value)} {st : List Value} {sh : List zShp} {M : zMem} {R : zEnd} {x y : Int32} (hd : decode μ.2.1 pc = .ok (.idiv, 1)) (hne : ¬ y = 0) (k : (zRT μ kc ks (pc + 1) lv (.int (x / y) :: st) sh M R)) : (zRT μ kc ks (pc) lv (.int y :: .int x :: st) sh M R) := by
  intro p l e Rm s m args below meth c H locs cells slots D cy B ls C V hc hs hl
  exact lv_idiv C.1 C.2.1 hd hne (k p l e Rm s m args below meth c H locs cells slots D cy B ls C V hc hs hl)
theorem zs_irem {μ : zMI} {kc ks pc : Nat} {lv : List (Nat × Value)} {st : List Value} {sh : List zShp} {M : zMem} {R : zEnd} {x y : Int32} (hd : decode μ.2.1 pc = .ok (.irem, 1)) (hne : ¬ y = 0) (k : (zRT μ kc ks (pc + 1) lv (.int (x - x / y * y) :: st) sh M R)) : (zRT μ kc ks (pc) lv (.int y :: .int x :: st) sh M R) := by
  intro p l e Rm s m args below meth c H locs cells slots D cy B ls C V hc hs hl
  exact lv_irem C.1 C.2.1 hd hne (k p l e Rm s m args below meth c H locs cells slots D cy B ls C V hc hs hl)
theorem zs_iushr {μ : zMI} {kc ks pc : Nat} {lv : List (Nat × Value)} {st : List Value} {sh : List zShp} {M : zMem} {R : zEnd} {x y : Int32} (hd : decode μ.2.1 pc = .ok (.iushr, 1)) (k : (zRT μ kc ks (pc + 1) lv (.int ((x.toUInt32 >>> (y.toUInt32 &&& Int32.toUInt32 31)).toInt32) :: st) sh M R)) : (zRT μ kc ks (pc) lv (.int y :: .int x :: st) sh M R) := by
  intro p l e Rm s m args below meth c H locs cells slots D cy B ls C V hc hs hl
  exact lv_iushr C.1 C.2.1 hd rfl (k p l e Rm s m args below meth c H locs cells slots D cy B ls C V hc hs hl)
theorem zs_ineg {μ : zMI} {kc ks pc : Nat} {lv : List (Nat × Value)} {st : List Value} {sh : List zShp} {M : zMem} {R : zEnd} {x : Int32} (hd : decode μ.2.1 pc = .ok (.ineg, 1)) (k : (zRT μ kc ks (pc + 1) lv (.int (-x) :: st) sh M R)) : (zRT μ kc ks (pc) lv (.int x :: st) sh M R) := by
  intro p l e Rm s m args below meth c H locs cells slots D cy B ls C V hc hs hl
  exact lv_ineg C.1 C.2.1 hd (k p l e Rm s m args below meth c H locs cells slots D cy B ls C V hc hs hl)
theorem zs_i2l {μ : zMI} {kc ks pc : Nat} {lv : List (Nat × Value)} {st : List Value} {sh : List zShp} {M : zMem} {R : zEnd} {x : Int32} (hd : decode μ.2.1 pc = .ok (.i2l, 1)) (k : (zRT μ kc ks (pc + 1) lv (.long x.toInt64 :: st) sh M R)) : (zRT μ kc ks (pc) lv (.int x :: st) sh M R) := by
  intro p l e Rm s m args below meth c H locs cells slots D cy B ls C V hc hs hl
  exact lv_i2l C.1 C.2.1 hd rfl (k p l e Rm s m args below meth c H locs cells slots D cy B ls C V hc hs hl)
theorem zs_dup {μ : zMI} {kc ks pc : Nat} {lv : List (Nat × Value)} {st : List Value} {sh : List zShp} {M : zMem} {R : zEnd} {v : Value} (hd : decode μ.2.1 pc = .ok (.dup, 1)) (hv : v.category = 1) (k : (zRT μ kc ks (pc + 1) lv (v :: v :: st) sh M R)) : (zRT μ kc ks (pc) lv (v :: st) sh M R) := by
  intro p l e Rm s m args below meth c H locs cells slots D cy B ls C V hc hs hl
  exact lv_dup C.1 C.2.1 hd ((zv_cat B v).trans hv) (k p l e Rm s m args below meth c H locs cells slots D cy B ls C V hc hs hl)
theorem zs_dup2 {μ : zMI} {kc ks pc : Nat} {lv : List (Nat × Value)} {st : List Value} {sh : List zShp} {M : zMem} {R : zEnd} {v w : Value} (hd : decode μ.2.1 pc = .ok (.dup2, 1)) (hv : v.category = 1) (hw : w.category = 1) (k : (zRT μ kc ks (pc + 1) lv (v :: w :: v :: w :: st) sh M R)) : (zRT μ kc ks (pc) lv (v :: w :: st) sh M R) := by
  intro p l e Rm s m args below meth c H locs cells slots D cy B ls C V hc hs hl
  exact lv_dup2_11 C.1 C.2.1 hd ((zv_cat B v).trans hv) ((zv_cat B w).trans hw) (k p l e Rm s m args below meth c H locs cells slots D cy B ls C V hc hs hl)
theorem zs_pop {μ : zMI} {kc ks pc : Nat} {lv : List (Nat × Value)} {st : List Value} {sh : List zShp} {M : zMem} {R : zEnd} {v : Value} (hd : decode μ.2.1 pc = .ok (.pop, 1)) (hv : v.category = 1) (k : (zRT μ kc ks (pc + 1) lv (st) sh M R)) : (zRT μ kc ks (pc) lv (v :: st) sh M R) := by
  intro p l e Rm s m args below meth c H locs cells slots D cy B ls C V hc hs hl
  exact lv_pop C.1 C.2.1 hd ((zv_cat B v).trans hv) (k p l e Rm s m args below meth c H locs cells slots D cy B ls C V hc hs hl)
theorem zs_if_eq {μ : zMI} {kc ks pc : Nat} {lv : List (Nat × Value)} {st : List Value} {sh : List zShp} {M : zMem} {R : zEnd} {x : Int32} {off : Int} (tgt : Nat) (hd : decode μ.2.1 pc = .ok (.ifCond .eq off, 3)) (ht : (pc : Int) + off = (tgt : Int)) (kt : x = 0 → (zRT μ kc ks (tgt) lv (st) sh M R)) (kf : ¬ x = 0 → (zRT μ kc ks (pc + 3) lv (st) sh M R)) : (zRT μ kc ks (pc) lv (.int x :: st) sh M R) := by
  intro p l e Rm s m args below meth c H locs cells slots D cy B ls C V hc hs hl
  exact lv_if_eq C.1 C.2.1 hd ht (fun z => kt z p l e Rm s m args below meth c H locs cells slots D cy B ls C V hc hs hl) (fun z => kf z p l e Rm s m args below meth c H locs cells slots D cy B ls C V hc hs hl)
theorem zs_if_ne {μ : zMI} {kc ks pc : Nat} {lv : List (Nat × Value)} {st : List Value} {sh : List zShp} {M : zMem} {R : zEnd} {x : Int32} {off : Int} (tgt : Nat) (hd : decode μ.2.1 pc = .ok (.ifCond .ne off, 3)) (ht : (pc : Int) + off = (tgt : Int)) (kt : ¬ x = 0 → (zRT μ kc ks (tgt) lv (st) sh M R)) (kf : x = 0 → (zRT μ kc ks (pc + 3) lv (st) sh M R)) : (zRT μ kc ks (pc) lv (.int x :: st) sh M R) := by
  intro p l e Rm s m args below meth c H locs cells slots D cy B ls C V hc hs hl
  exact lv_if_ne C.1 C.2.1 hd ht (fun z => kt z p l e Rm s m args below meth c H locs cells slots D cy B ls C V hc hs hl) (fun z => kf z p l e Rm s m args below meth c H locs cells slots D cy B ls C V hc hs hl)
theorem zs_if_lt {μ : zMI} {kc ks pc : Nat} {lv : List (Nat × Value)} {st : List Value} {sh : List zShp} {M : zMem} {R : zEnd} {x : Int32} {off : Int} (tgt : Nat) (hd : decode μ.2.1 pc = .ok (.ifCond .lt off, 3)) (ht : (pc : Int) + off = (tgt : Int)) (kt : x < 0 → (zRT μ kc ks (tgt) lv (st) sh M R)) (kf : ¬ x < 0 → (zRT μ kc ks (pc + 3) lv (st) sh M R)) : (zRT μ kc ks (pc) lv (.int x :: st) sh M R) := by
  intro p l e Rm s m args below meth c H locs cells slots D cy B ls C V hc hs hl
  exact lv_if_lt C.1 C.2.1 hd ht (fun z => kt z p l e Rm s m args below meth c H locs cells slots D cy B ls C V hc hs hl) (fun z => kf z p l e Rm s m args below meth c H locs cells slots D cy B ls C V hc hs hl)
theorem zs_if_ge {μ : zMI} {kc ks pc : Nat} {lv : List (Nat × Value)} {st : List Value} {sh : List zShp} {M : zMem} {R : zEnd} {x : Int32} {off : Int} (tgt : Nat) (hd : decode μ.2.1 pc = .ok (.ifCond .ge off, 3)) (ht : (pc : Int) + off = (tgt : Int)) (kt : 0 ≤ x → (zRT μ kc ks (tgt) lv (st) sh M R)) (kf : ¬ 0 ≤ x → (zRT μ kc ks (pc + 3) lv (st) sh M R)) : (zRT μ kc ks (pc) lv (.int x :: st) sh M R) := by
  intro p l e Rm s m args below meth c H locs cells slots D cy B ls C V hc hs hl
  exact lv_if_ge C.1 C.2.1 hd ht (fun z => kt z p l e Rm s m args below meth c H locs cells slots D cy B ls C V hc hs hl) (fun z => kf z p l e Rm s m args below meth c H locs cells slots D cy B ls C V hc hs hl)
theorem zs_if_gt {μ : zMI} {kc ks pc : Nat} {lv : List (Nat × Value)} {st : List Value} {sh : List zShp} {M : zMem} {R : zEnd} {x : Int32} {off : Int} (tgt : Nat) (hd : decode μ.2.1 pc = .ok (.ifCond .gt off, 3)) (ht : (pc : Int) + off = (tgt : Int)) (kt : 0 < x → (zRT μ kc ks (tgt) lv (st) sh M R)) (kf : ¬ 0 < x → (zRT μ kc ks (pc + 3) lv (st) sh M R)) : (zRT μ kc ks (pc) lv (.int x :: st) sh M R) := by
  intro p l e Rm s m args below meth c H locs cells slots D cy B ls C V hc hs hl
  exact lv_if_gt C.1 C.2.1 hd ht (fun z => kt z p l e Rm s m args below meth c H locs cells slots D cy B ls C V hc hs hl) (fun z => kf z p l e Rm s m args below meth c H locs cells slots D cy B ls C V hc hs hl)
theorem zs_if_le {μ : zMI} {kc ks pc : Nat} {lv : List (Nat × Value)} {st : List Value} {sh : List zShp} {M : zMem} {R : zEnd} {x : Int32} {off : Int} (tgt : Nat) (hd : decode μ.2.1 pc = .ok (.ifCond .le off, 3)) (ht : (pc : Int) + off = (tgt : Int)) (kt : x ≤ 0 → (zRT μ kc ks (tgt) lv (st) sh M R)) (kf : ¬ x ≤ 0 → (zRT μ kc ks (pc + 3) lv (st) sh M R)) : (zRT μ kc ks (pc) lv (.int x :: st) sh M R) := by
  intro p l e Rm s m args below meth c H locs cells slots D cy B ls C V hc hs hl
  exact lv_if_le C.1 C.2.1 hd ht (fun z => kt z p l e Rm s m args below meth c H locs cells slots D cy B ls C V hc hs hl) (fun z => kf z p l e Rm s m args below meth c H locs cells slots D cy B ls C V hc hs hl)
theorem zs_icmp_eq {μ : zMI} {kc ks pc : Nat} {lv : List (Nat × Value)} {st : List Value} {sh : List zShp} {M : zMem} {R : zEnd} {x y : Int32} {off : Int} (tgt : Nat) (hd : decode μ.2.1 pc = .ok (.if_icmp .eq off, 3)) (ht : (pc : Int) + off = (tgt : Int)) (kt : x = y → (zRT μ kc ks (tgt) lv (st) sh M R)) (kf : ¬ x = y → (zRT μ kc ks (pc + 3) lv (st) sh M R)) : (zRT μ kc ks (pc) lv (.int y :: .int x :: st) sh M R) := by
  intro p l e Rm s m args below meth c H locs cells slots D cy B ls C V hc hs hl
  exact lv_icmp_eq C.1 C.2.1 hd ht (fun z => kt z p l e Rm s m args below meth c H locs cells slots D cy B ls C V hc hs hl) (fun z => kf z p l e Rm s m args below meth c H locs cells slots D cy B ls C V hc hs hl)
theorem zs_icmp_ne {μ : zMI} {kc ks pc : Nat} {lv : List (Nat × Value)} {st : List Value} {sh : List zShp} {M : zMem} {R : zEnd} {x y : Int32} {off : Int} (tgt : Nat) (hd : decode μ.2.1 pc = .ok (.if_icmp .ne off, 3)) (ht : (pc : Int) + off = (tgt : Int)) (kt : ¬ x = y → (zRT μ kc ks (tgt) lv (st) sh M R)) (kf : x = y → (zRT μ kc ks (pc + 3) lv (st) sh M R)) : (zRT μ kc ks (pc) lv (.int y :: .int x :: st) sh M R) := by
  intro p l e Rm s m args below meth c H locs cells slots D cy B ls C V hc hs hl
  exact lv_icmp_ne C.1 C.2.1 hd ht (fun z => kt z p l e Rm s m args below meth c H locs cells slots D cy B ls C V hc hs hl) (fun z => kf z p l e Rm s m args below meth c H locs cells slots D cy B ls C V hc hs hl)
theorem zs_icmp_lt {μ : zMI} {kc ks pc : Nat} {lv : List (Nat × Value)} {st : List Value} {sh : List zShp} {M : zMem} {R : zEnd} {x y : Int32} {off : Int} (tgt : Nat) (hd : decode μ.2.1 pc = .ok (.if_icmp .lt off, 3)) (ht : (pc : Int) + off = (tgt : Int)) (kt : x < y → (zRT μ kc ks (tgt) lv (st) sh M R)) (kf : ¬ x < y → (zRT μ kc ks (pc + 3) lv (st) sh M R)) : (zRT μ kc ks (pc) lv (.int y :: .int x :: st) sh M R) := by
  intro p l e Rm s m args below meth c H locs cells slots D cy B ls C V hc hs hl
  exact lv_icmp_lt C.1 C.2.1 hd ht (fun z => kt z p l e Rm s m args below meth c H locs cells slots D cy B ls C V hc hs hl) (fun z => kf z p l e Rm s m args below meth c H locs cells slots D cy B ls C V hc hs hl)
theorem zs_icmp_ge {μ : zMI} {kc ks pc : Nat} {lv : List (Nat × Value)} {st : List Value} {sh : List zShp} {M : zMem} {R : zEnd} {x y : Int32} {off : Int} (tgt : Nat) (hd : decode μ.2.1 pc = .ok (.if_icmp .ge off, 3)) (ht : (pc : Int) + off = (tgt : Int)) (kt : y ≤ x → (zRT μ kc ks (tgt) lv (st) sh M R)) (kf : ¬ y ≤ x → (zRT μ kc ks (pc + 3) lv (st) sh M R)) : (zRT μ kc ks (pc) lv (.int y :: .int x :: st) sh M R) := by
  intro p l e Rm s m args below meth c H locs cells slots D cy B ls C V hc hs hl
  exact lv_icmp_ge C.1 C.2.1 hd ht (fun z => kt z p l e Rm s m args below meth c H locs cells slots D cy B ls C V hc hs hl) (fun z => kf z p l e Rm s m args below meth c H locs cells slots D cy B ls C V hc hs hl)
theorem zs_icmp_gt {μ : zMI} {kc ks pc : Nat} {lv : List (Nat × Value)} {st : List Value} {sh : List zShp} {M : zMem} {R : zEnd} {x y : Int32} {off : Int} (tgt : Nat) (hd : decode μ.2.1 pc = .ok (.if_icmp .gt off, 3)) (ht : (pc : Int) + off = (tgt : Int)) (kt : y < x → (zRT μ kc ks (tgt) lv (st) sh M R)) (kf : ¬ y < x → (zRT μ kc ks (pc + 3) lv (st) sh M R)) : (zRT μ kc ks (pc) lv (.int y :: .int x :: st) sh M R) := by
  intro p l e Rm s m args below meth c H locs cells slots D cy B ls C V hc hs hl
  exact lv_icmp_gt C.1 C.2.1 hd ht (fun z => kt z p l e Rm s m args below meth c H locs cells slots D cy B ls C V hc hs hl) (fun z => kf z p l e Rm s m args below meth c H locs cells slots D cy B ls C V hc hs hl)
theorem zs_icmp_le {μ : zMI} {kc ks pc : Nat} {lv : List (Nat × Value)} {st : List Value} {sh : List zShp} {M : zMem} {R : zEnd} {x y : Int32} {off : Int} (tgt : Nat) (hd : decode μ.2.1 pc = .ok (.if_icmp .le off, 3)) (ht : (pc : Int) + off = (tgt : Int)) (kt : x ≤ y → (zRT μ kc ks (tgt) lv (st) sh M R)) (kf : ¬ x ≤ y → (zRT μ kc ks (pc + 3) lv (st) sh M R)) : (zRT μ kc ks (pc) lv (.int y :: .int x :: st) sh M R) := by
  intro p l e Rm s m args below meth c H locs cells slots D cy B ls C V hc hs hl
  exact lv_icmp_le C.1 C.2.1 hd ht (fun z => kt z p l e Rm s m args below meth c H locs cells slots D cy B ls C V hc hs hl) (fun z => kf z p l e Rm s m args below meth c H locs cells slots D cy B ls C V hc hs hl)
theorem zs_goto {μ : zMI} {kc ks pc : Nat} {lv : List (Nat × Value)} {st : List Value} {sh : List zShp} {M : zMem} {R : zEnd} {off : Int} (tgt : Nat) (hd : decode μ.2.1 pc = .ok (.goto off, 3)) (ht : (pc : Int) + off = (tgt : Int)) (k : (zRT μ kc ks (tgt) lv (st) sh M R)) : (zRT μ kc ks (pc) lv (st) sh M R) := by
  intro p l e Rm s m args below meth c H locs cells slots D cy B ls C V hc hs hl
  exact lv_goto C.1 C.2.1 hd ht (k p l e Rm s m args below meth c H locs cells slots D cy B ls C V hc hs hl)
theorem zs_ifnonnull {μ : zMI} {kc ks pc : Nat} {lv : List (Nat × Value)} {st : List Value} {sh : List zShp} {M : zMem} {R : zEnd} {x : Nat} {off : Int} (tgt : Nat) (hd : decode μ.2.1 pc = .ok (.ifnonnull off, 3)) (ht : (pc : Int) + off = (tgt : Int)) (k : (zRT μ kc ks (tgt) lv (st) sh M R)) : (zRT μ kc ks (pc) lv (.ref x :: st) sh M R) := by
  intro p l e Rm s m args below meth c H locs cells slots D cy B ls C V hc hs hl
  exact lv_ifnonnull C.1 C.2.1 hd ht (k p l e Rm s m args below meth c H locs cells slots D cy B ls C V hc hs hl)
theorem zs_ifnonnullN {μ : zMI} {kc ks pc : Nat} {lv : List (Nat × Value)} {st : List Value} {sh : List zShp} {M : zMem} {R : zEnd} {off : Int} (hd : decode μ.2.1 pc = .ok (.ifnonnull off, 3)) (k : (zRT μ kc ks (pc + 3) lv (st) sh M R)) : (zRT μ kc ks (pc) lv (.null :: st) sh M R) := by
  intro p l e Rm s m args below meth c H locs cells slots D cy B ls C V hc hs hl
  exact lv_ifnonnullN C.1 C.2.1 hd (k p l e Rm s m args below meth c H locs cells slots D cy B ls C V hc hs hl)
theorem zs_tableIn {μ : zMI} {kc ks pc : Nat} {lv : List (Nat × Value)} {st : List Value} {sh : List zShp} {M : zMem} {R : zEnd} {dflt lo hi : Int} {offs : Array Int} {len : Nat} {x : Int32} {off : Int} (tgt : Nat) (hd : decode μ.2.1 pc = .ok (.tableswitch dflt lo hi offs, len)) (h1 : ¬ x.toInt < lo) (h2 : ¬ hi < x.toInt) (ho : offs[(x.toInt - lo).toNat]? = some off) (ht : (pc : Int) + off = (tgt : Int)) (k : (zRT μ kc ks (tgt) lv (st) sh M R)) : (zRT μ kc ks (pc) lv (.int x :: st) sh M R) := by
  intro p l e Rm s m args below meth c H locs cells slots D cy B ls C V hc hs hl
  exact lv_tableIn C.1 C.2.1 hd h1 h2 ho ht (k p l e Rm s m args below meth c H locs cells slots D cy B ls C V hc hs hl)
theorem zs_tableOut {μ : zMI} {kc ks pc : Nat} {lv : List (Nat × Value)} {st : List Value} {sh : List zShp} {M : zMem} {R : zEnd} {dflt lo hi : Int} {offs : Array Int} {len : Nat} {x : Int32} (tgt : Nat) (hd : decode μ.2.1 pc = .ok (.tableswitch dflt lo hi offs, len)) (h : x.toInt < lo ∨ hi < x.toInt) (ht : (pc : Int) + dflt = (tgt : Int)) (k : (zRT μ kc ks (tgt) lv (st) sh M R)) : (zRT μ kc ks (pc) lv (.int x :: st) sh M R) := by
  intro p l e Rm s m args below meth c H locs cells slots D cy B ls C V hc hs hl
  exact lv_tableOut C.1 C.2.1 hd h ht (k p l e Rm s m args below meth c H locs cells slots D cy B ls C V hc hs hl)
theorem zs_lookup {μ : zMI} {kc ks pc : Nat} {lv : List (Nat × Value)} {st : List Value} {sh : List zShp} {M : zMem} {R : zEnd} {dflt : Int} {ps : Array (Int × Int)} {len : Nat} {x : Int32} {off : Int} (tgt : Nat) (hd : decode μ.2.1 pc = .ok (.lookupswitch dflt ps, len)) (hp : (ps.toList.zip (ps.toList.drop 1)).all (fun (a, next) => a.1 < next.1) = true) (ho : Op.lookupswitch.offset ps.toList dflt x.toInt = off) (ht : (pc : Int) + off = (tgt : Int)) (k : (zRT μ kc ks (tgt) lv (st) sh M R)) : (zRT μ kc ks (pc) lv (.int x :: st) sh M R) := by
  intro p l e Rm s m args below meth c H locs cells slots D cy B ls C V hc hs hl
  exact lv_lookup C.1 C.2.1 hd hp ho ht (k p l e Rm s m args below meth c H locs cells slots D cy B ls C V hc hs hl)
theorem zs_ldc {μ : zMI} {kc ks pc : Nat} {lv : List (Nat × Value)} {st : List Value} {sh : List zShp} {M : zMem} {R : zEnd} {ix : Nat} {v : Int32} (hd : decode μ.2.1 pc = .ok (.ldc ix, 2)) (hw : Cond.constant μ.1.cls ix v ∈ zgt) (k : (zRT μ kc ks (pc + 2) lv (.int v :: st) sh M R)) : (zRT μ kc ks (pc) lv (st) sh M R) := by
  intro p l e Rm s m args below meth c H locs cells slots D cy B ls C V hc hs hl
  exact lv_ldc C.1 C.2.1 C.2.2.2.2.1 (C.2.2.2.2.2.1 _ hw) hd (k p l e Rm s m args below meth c H locs cells slots D cy B ls C V hc hs hl)
theorem zs_ldcw {μ : zMI} {kc ks pc : Nat} {lv : List (Nat × Value)} {st : List Value} {sh : List zShp} {M : zMem} {R : zEnd} {ix : Nat} {v : Int32} (hd : decode μ.2.1 pc = .ok (.ldc_w ix, 3)) (hw : Cond.constant μ.1.cls ix v ∈ zgt) (k : (zRT μ kc ks (pc + 3) lv (.int v :: st) sh M R)) : (zRT μ kc ks (pc) lv (st) sh M R) := by
  intro p l e Rm s m args below meth c H locs cells slots D cy B ls C V hc hs hl
  exact lv_ldcw C.1 C.2.1 C.2.2.2.2.1 (C.2.2.2.2.2.1 _ hw) hd (k p l e Rm s m args below meth c H locs cells slots D cy B ls C V hc hs hl)
theorem zs_ldc2 {μ : zMI} {kc ks pc : Nat} {lv : List (Nat × Value)} {st : List Value} {sh : List zShp} {M : zMem} {R : zEnd} {ix : Nat} {v : Int64} (hd : decode μ.2.1 pc = .ok (.ldc2_w ix, 3)) (hw : Cond.constantLong μ.1.cls ix v ∈ zgt) (k : (zRT μ kc ks (pc + 3) lv (.long v :: st) sh M R)) : (zRT μ kc ks (pc) lv (st) sh M R) := by
  intro p l e Rm s m args below meth c H locs cells slots D cy B ls C V hc hs hl
  exact lv_ldc2 C.1 C.2.1 C.2.2.2.2.1 (C.2.2.2.2.2.1 _ hw) hd (k p l e Rm s m args below meth c H locs cells slots D cy B ls C V hc hs hl)
/-- the entry ix of the class own is the field k of the class ci of zCL -/
def zGF (own : String) (ix ci k : Nat) : Prop := ∃ (C : String) (T : u_T) (N : Nat), zCL[ci]? = some (C, T, N) ∧ (∀ w ∈ u_ws C T N, w ∈ zgt) ∧ k < N ∧ Cond.fieldLink own ix (T k).1 (T k).2.1 (T k).2.2.1 ∈ zgt
def zPF (own : String) (ix ci k : Nat) (fin : Bool) (ty : FieldType) : Prop := ∃ (C : String) (T : u_T) (N : Nat) (t : Nat → FieldType), zCL[ci]? = some (C, T, N) ∧ (∀ w ∈ u_ws C T N, w ∈ zgt) ∧ k < N ∧ Cond.fieldLink own ix (T k).1 (T k).2.1 (T k).2.2.1 ∈ zgt ∧ (∀ k, k < N → parseFieldDescriptor (T k).2.2.1 = some (t k)) ∧ (∀ a, a < N → ∀ b, b < N → a ≠ b → (T a).2.1 ≠ (T b).2.1) ∧ (T k).2.2.2 = fin ∧ parseFieldDescriptor (T k).2.2.1 = some ty ∧ (T k).1 = own
theorem zs_get {μ : zMI} {kc ks pc : Nat} {lv : List (Nat × Value)} {st : List Value} {sh : List zShp} {M : zMem} {R : zEnd} {ix ci f o : Nat} {fs : List (Option (Option Nat))} {x : Option (Option Nat)} (hd : decode μ.2.1 pc = .ok (.getfield ix, 3)) (F : zGF μ.1.cls ix ci f) (ho : sh[o]? = some (.inr (.inl (ci, fs)))) (hf : fs[f]? = some x) (k : (zRT μ kc ks (pc + 3) lv (zfv (M o) f x :: st) sh M R)) : (zRT μ kc ks (pc) lv (.ref o :: st) sh M R) := by
  intro p l e Rm s m args below meth c H locs cells slots D cy B ls C V hc hs hl
  obtain ⟨Cn, T, N, h1, h2, h3, h4⟩ := F
  exact va_get (D := D) (cl := zCL) (tys := zTY cy) (ws := zw cy B sh M) (fs := fs.mapIdx (fun j x => zv B (zfv (M o) j x))) C.1 C.2.1 C.2.2.2.2.2.1 h2 C.2.2.2.2.1 V.1 V.2.1 o (zw_at ho) h1 f h3 (C.2.2.2.2.2.1 _ h4) (fun _ h9 => h9) (by simp [List.getElem?_mapIdx, hf]) hd (k p l e Rm s m args below meth c H locs cells slots D cy B ls C V hc hs hl)
theorem zW_size {p : Program} {l : Launch} {e : Env} {R : Room} {s : State} {m : MethodId} {args : Array Value} {below : List Frame} {meth : Method} {c : Code} {H : Heap} {locs : List Loc} {cells slots : Nat} {Q : State → Prop} {g : JFrame} (k : H.size ≤ s.heap.size + cells → W p l e R s m args below meth c H locs cells slots Q g) : W p l e R s m args below meth c H locs cells slots Q g := by
  intro T hT X
  have h := X.heapSize
  rw [hT] at h
  exact k h T hT X
theorem zS_self {A : Nat → Prop} {H0 H : Heap} {locs : List Loc} (h : va_S A H0 H locs) : va_S A H H locs := ⟨Nat.le_refl _, fun _ _ _ => rfl, h.2.2⟩
theorem zS_trans {A : Nat → Prop} {H0 H H1 : Heap} {locs locs1 : List Loc} (h : va_S A H0 H locs) (h1 : va_S A H H1 locs1) : va_S A H0 H1 locs1 := ⟨Nat.le_trans h.1 h1.1, fun q a b => (h1.2.1 q (Nat.lt_of_lt_of_le a h.1) b).trans (h.2.1 q a b), h1.2.2⟩
/-- a write: the cells stay as many -/
theorem zWd_write {D : va_G} {cy : zCy} {B : Nat} {s : State} {H H1 : Heap} {locs locs1 : List Loc} {cells : Nat} {sh sh1 : List zShp} {M M1 : zMem} (V : zWd D cy B s H locs cells sh M) (hP : va_P D zCL (zw cy B sh1 M1) H1) (hS : va_S (fun q => B ≤ q) H H1 locs1) (hz : H1.size ≤ s.heap.size + cells) (hl : sh1.length = sh.length) : zWd D cy B s H1 locs1 cells sh1 M1 := by
  obtain ⟨v1, v2, v3, v4, v5, v6⟩ := V
  have h1 := hS.1
  exact ⟨v1, hP, by omega, by omega, zS_trans v5 hS, v6⟩
theorem zs_put {μ : zMI} {kc ks pc : Nat} {lv : List (Nat × Value)} {st : List Value} {sh : List zShp} {M : zMem} {R : zEnd} {ix ci f o : Nat} {fs : List (Option (Option Nat))} {v : Int32} {ty : FieldType} (hd : decode μ.2.1 pc = .ok (.putfield ix, 3)) (F : zPF μ.1.cls ix ci f false ty) (ho : sh[o]? = some (.inr (.inl (ci, fs)))) (hf : fs[f]? = some none) (hn : narrow ty (.int v) = .int v) (hfit : fits ty (.int v) = true) (k : (zRT μ kc ks (pc + 3) lv (st) sh (zms M o f v) R)) : (zRT μ kc ks (pc) lv (.int v :: .ref o :: st) sh M R) := by
  intro p l e Rm s m args below meth c H locs cells slots D cy B ls C V hc hs hl
  obtain ⟨Cn, T, N, t, h1, h2, h3, h4, h5, h6, h7, h8, -⟩ := F
  have hl0 : f < fs.length := (List.getElem?_eq_some_iff.mp hf).1
  refine va_put (D := D) (cl := zCL) (tys := zTY cy) (ws := zw cy B sh M) (fs := fs.mapIdx (fun j x => zv B (zfv (M o) j x))) C.1 C.2.1 C.2.2.2.2.2.1 h2 t h5 h6 C.2.2.2.2.1 V.1 V.2.1 (zw_D cy B sh M) (zS_self V.2.2.2.2.1) o (zw_at ho) h1 f h3 (C.2.2.2.2.2.1 _ h4) (fun _ h9 => h9) h7 h8 hn hfit (by simp; exact hl0) hd (fun H1 locs1 hP hD hS => ?_)
  have he : zw cy B sh (zms M o f v) = (zw cy B sh M).set o (B + o, .inr (ci, (fs.mapIdx (fun j x => zv B (zfv (M o) j x))).set f (.int v))) := by
    rw [zw_same ho (zms_ne M o f v), zms_row, ← zc_fs hf]
    rfl
  have hP : va_P D zCL (zw cy B sh (zms M o f v)) H1 := by rw [he]; exact hP
  exact zW_size (fun hz => k p l e Rm s m args below meth c H1 locs1 cells slots D cy B ls C (zWd_write V hP hS hz rfl) hc hs hl)
theorem zs_putR {μ : zMI} {kc ks pc : Nat} {lv : List (Nat × Value)} {st : List Value} {sh : List zShp} {M : zMem} {R : zEnd} {ix ci f o r : Nat} {fs : List (Option (Option Nat))} {ty : FieldType} (hd : decode μ.2.1 pc = .ok (.putfield ix, 3)) (F : zPF μ.1.cls ix ci f true ty) (ho : sh[o]? = some (.inr (.inl (ci, fs)))) (hf : f < fs.length) (hi : μ.1.name = "<init>") (hn : ∀ a : Nat, narrow ty (.ref a) = .ref a) (hfit : ∀ a : Nat, fits ty (.ref a) = true) (k : (zRT μ kc ks (pc + 3) lv (st) (sh.set o (.inr (.inl (ci, fs.set f (some (some r)))))) M R)) : (zRT μ kc ks (pc) lv (.ref r :: .ref o :: st) sh M R) := by
  intro p l e Rm s m args below meth c H locs cells slots D cy B ls C V hc hs hl
  obtain ⟨Cn, T, N, t, h1, h2, h3, h4, h5, h6, h7, h8, h9⟩ := F
  refine va_putF (D := D) (cl := zCL) (tys := zTY cy) (ws := zw cy B sh M) (fs := fs.mapIdx (fun j x => zv B (zfv (M o) j x))) C.1 C.2.1 C.2.2.2.2.2.1 h2 t h5 h6 C.2.2.2.2.1 V.1 V.2.1 (zw_D cy B sh M) (zS_self V.2.2.2.2.1) o (zw_at ho) h1 f h3 (C.2.2.2.2.2.1 _ h4) (fun _ h9 => h9) h7 (C.2.2.2.2.2.2.2.1.trans hi) h9 h8 (hn _) (hfit _) (by simp; exact hf) hd (fun H1 locs1 hP hD hS => ?_)
  have he : zw cy B (sh.set o (.inr (.inl (ci, fs.set f (some (some r)))))) M = (zw cy B sh M).set o (B + o, .inr (ci, (fs.mapIdx (fun j x => zv B (zfv (M o) j x))).set f (.ref (B + r)))) := by
    rw [zw_set ho (fun _ _ => rfl)]
    show _ = (zw cy B sh M).set o (B + o, Sum.inr (ci, (fs.mapIdx (fun j x => zv B (zfv (M o) j x))).set f (zv B (va_rf (some r)))))
    rw [← zc_fr (some r) hf]
    rfl
  have hP : va_P D zCL (zw cy B (sh.set o (.inr (.inl (ci, fs.set f (some (some r)))))) M) H1 := by rw [he]; exact hP
  exact zW_size (fun hz => k p l e Rm s m args below meth c H1 locs1 cells slots D cy B ls C (zWd_write V hP hS hz (by simp)) hc hs hl)
theorem zs_iald {μ : zMI} {kc ks pc : Nat} {lv : List (Nat × Value)} {st : List Value} {sh : List zShp} {M : zMem} {R : zEnd} {o n : Nat} {i : Int32} (hd : decode μ.2.1 pc = .ok (.iaload, 1)) (ho : sh[o]? = some (.inl (0, n))) (hin : vp_in i n) (k : (zRT μ kc ks (pc + 1) lv (.int (M o i.toNatClampNeg) :: st) sh M R)) : (zRT μ kc ks (pc) lv (.int i :: .ref o :: st) sh M R) := by
  intro p l e Rm s m args below meth c H locs cells slots D cy B ls C V hc hs hl
  exact va_iald (D := D) (cl := zCL) (tys := zTY cy) (ws := zw cy B sh M) C.1 C.2.1 V.1 V.2.1 o 0 (zw_at ho) rfl hin hd (k p l e Rm s m args below meth c H locs cells slots D cy B ls C V hc hs hl)
theorem zs_zald {μ : zMI} {kc ks pc : Nat} {lv : List (Nat × Value)} {st : List Value} {sh : List zShp} {M : zMem} {R : zEnd} {o n : Nat} {i : Int32} (hd : decode μ.2.1 pc = .ok (.baload, 1)) (ho : sh[o]? = some (.inl (1, n))) (hin : vp_in i n) (k : (zRT μ kc ks (pc + 1) lv (.int (M o i.toNatClampNeg) :: st) sh M R)) : (zRT μ kc ks (pc) lv (.int i :: .ref o :: st) sh M R) := by
  intro p l e Rm s m args below meth c H locs cells slots D cy B ls C V hc hs hl
  exact va_zald (D := D) (cl := zCL) (tys := zTY cy) (ws := zw cy B sh M) C.1 C.2.1 V.1 V.2.1 o 1 (zw_at ho) rfl hin hd (k p l e Rm s m args below meth c H locs cells slots D cy B ls C V hc hs hl)
theorem zs_aald {μ : zMI} {kc ks pc : Nat} {lv : List (Nat × Value)} {st : List Value} {sh : List zShp} {M : zMem} {R : zEnd} {o n : Nat} {g : Nat → Option Nat} {i : Int32} (hd : decode μ.2.1 pc = .ok (.aaload, 1)) (ho : sh[o]? = some (.inr (.inr (n, g)))) (hin : vp_in i n) (k : (zRT μ kc ks (pc + 1) lv (va_rf (g i.toNatClampNeg) :: st) sh M R)) : (zRT μ kc ks (pc) lv (.int i :: .ref o :: st) sh M R) := by
  intro p l e Rm s m args below meth c H locs cells slots D cy B ls C V hc hs hl
  have k := k p l e Rm s m args below meth c H locs cells slots D cy B ls C V hc hs hl
  rw [List.map_cons, zv_rf] at k
  exact va_aldq (D := D) (cl := zCL) (tys := zTY cy) (ws := zw cy B sh M) C.1 C.2.1 V.1 V.2.1 o 2 (zw_at ho) rfl hin hd k
theorem zs_iast {μ : zMI} {kc ks pc : Nat} {lv : List (Nat × Value)} {st : List Value} {sh : List zShp} {M : zMem} {R : zEnd} {o n : Nat} {i x : Int32} (hd : decode μ.2.1 pc = .ok (.iastore, 1)) (ho : sh[o]? = some (.inl (0, n))) (hin : vp_in i n) (k : (zRT μ kc ks (pc + 1) lv (st) sh (zms M o i.toNatClampNeg x) R)) : (zRT μ kc ks (pc) lv (.int x :: .int i :: .ref o :: st) sh M R) := by
  intro p l e Rm s m args below meth c H locs cells slots D cy B ls C V hc hs hl
  refine va_iast (D := D) (cl := zCL) (tys := zTY cy) (ws := zw cy B sh M) C.1 C.2.1 V.1 V.2.1 (zw_D cy B sh M) (zS_self V.2.2.2.2.1) o 0 (zw_at ho) rfl hin hd (fun H1 locs1 hP hD hS => ?_)
  have hP : va_P D zCL (zw cy B sh (zms M o i.toNatClampNeg x)) H1 := by rw [zw_same ho (zms_ne M o _ x), zms_row]; exact hP
  exact zW_size (fun hz => k p l e Rm s m args below meth c H1 locs1 cells slots D cy B ls C (zWd_write V hP hS hz rfl) hc hs hl)
theorem zs_zast {μ : zMI} {kc ks pc : Nat} {lv : List (Nat × Value)} {st : List Value} {sh : List zShp} {M : zMem} {R : zEnd} {o n : Nat} {i x : Int32} (hd : decode μ.2.1 pc = .ok (.bastore, 1)) (ho : sh[o]? = some (.inl (1, n))) (hin : vp_in i n) (hx : vp_nar .boolean x = x) (k : (zRT μ kc ks (pc + 1) lv (st) sh (zms M o i.toNatClampNeg x) R)) : (zRT μ kc ks (pc) lv (.int x :: .int i :: .ref o :: st) sh M R) := by
  intro p l e Rm s m args below meth c H locs cells slots D cy B ls C V hc hs hl
  refine va_zast (D := D) (cl := zCL) (tys := zTY cy) (ws := zw cy B sh M) C.1 C.2.1 V.1 V.2.1 (zw_D cy B sh M) (zS_self V.2.2.2.2.1) o 1 (zw_at ho) rfl hin hd (fun H1 locs1 hP hD hS => ?_)
  rw [hx] at hP
  have hP : va_P D zCL (zw cy B sh (zms M o i.toNatClampNeg x)) H1 := by rw [zw_same ho (zms_ne M o _ x), zms_row]; exact hP
  exact zW_size (fun hz => k p l e Rm s m args below meth c H1 locs1 cells slots D cy B ls C (zWd_write V hP hS hz rfl) hc hs hl)
theorem zs_aast {μ : zMI} {kc ks pc : Nat} {lv : List (Nat × Value)} {st : List Value} {sh : List zShp} {M : zMem} {R : zEnd} {o n r : Nat} {g : Nat → Option Nat} {i : Int32} {fs : List (Option (Option Nat))} (hd : decode μ.2.1 pc = .ok (.aastore, 1)) (ho : sh[o]? = some (.inr (.inr (n, g)))) (hr : sh[r]? = some (.inr (.inl (7, fs)))) (hin : vp_in i n) (k : (zRT μ kc ks (pc + 1) lv (st) (sh.set o (.inr (.inr (n, va_up g i.toNatClampNeg (some r))))) M R)) : (zRT μ kc ks (pc) lv (.ref r :: .int i :: .ref o :: st) sh M R) := by
  intro p l e Rm s m args below meth c H locs cells slots D cy B ls C V hc hs hl
  refine va_astq (D := D) (cl := zCL) (tys := zTY cy) (ws := zw cy B sh M) C.1 C.2.1 V.1 V.2.1 (zw_D cy B sh M) (zS_self V.2.2.2.2.1) o 2 r 7 (r := ("OthersHands$Town", zT_Town, 9)) (zw_at ho) rfl (zw_at hr) rfl hin hd (fun H1 locs1 hP hD hS => ?_)
  have he : (fun j => (va_up g i.toNatClampNeg (some r) j).map (B + ·)) = va_up (fun j => (g j).map (B + ·)) i.toNatClampNeg (some (B + r)) := by
    funext j
    by_cases hj : j = i.toNatClampNeg
    · subst hj; simp [va_up]
    · simp [va_up, hj]
  have hP : va_P D zCL (zw cy B (sh.set o (.inr (.inr (n, va_up g i.toNatClampNeg (some r))))) M) H1 := by
    rw [zw_set ho (fun _ _ => rfl)]
    show va_P D zCL ((zw cy B sh M).set o (B + o, Sum.inl (cy.2.2, n, .inr (.inr (.inr (.inr (fun j => (va_up g i.toNatClampNeg (some r) j).map (B + ·)))))))) H1
    rw [he]
    exact hP
  exact zW_size (fun hz => k p l e Rm s m args below meth c H1 locs1 cells slots D cy B ls C (zWd_write V hP hS hz (by simp)) hc hs hl)
theorem zs_copy {μ : zMI} {kc ks pc : Nat} {lv : List (Nat × Value)} {st : List Value} {sh : List zShp} {M : zMem} {R : zEnd} {ix o q n0 n1 : Nat} {sp dp n : Int32} (hd : decode μ.2.1 pc = .ok (.invokestatic ix, 3)) (hw : Cond.methodLink μ.1.cls ix arraycopyName ∈ zgt) (hr : 1 ≤ μ.2.2.2.2.1 ∧ (st.map fun v => v.category).sum + (nativeFrameWords "java/lang/System" "arraycopy" 5 + 11) ≤ μ.2.2.2.2.2) (ho : sh[o]? = some (.inl (0, n0))) (hq : sh[q]? = some (.inl (0, n1))) (h1 : ¬ sp < 0) (h2 : ¬ dp < 0) (h3 : ¬ n < 0) (h4 : sp.toNatClampNeg + n.toNatClampNeg ≤ n0) (h5 : dp.toNatClampNeg + n.toNatClampNeg ≤ n1) (k : (zRT μ kc ks (pc + 3) lv (st) sh (zmr M q (va_cpy (M o) (M q) sp.toNatClampNeg dp.toNatClampNeg n.toNatClampNeg)) R)) : (zRT μ kc ks (pc) lv (.int n :: .int dp :: .ref q :: .int sp :: .ref o :: st) sh M R) := by
  intro p l e Rm s m args below meth c H locs cells slots D cy B ls C V hc hs hl
  have hcat : ((st.map (zv B)).map fun v => v.category) = st.map fun v => v.category := by simp [Function.comp_def, zv_cat]
  refine va_copyi (D := D) (cl := zCL) (tys := zTY cy) (ws := zw cy B sh M) (ty := .int) C.1 C.2.1 (C.2.2.2.1.trans hl.1.symm) C.2.2.2.2.1 (C.2.2.2.2.2.1 _ hw) (C.2.2.2.2.2.1 _ (by decide +kernel)) (C.2.2.2.2.2.1 _ (by decide +kernel)) (C.2.2.2.2.2.1 _ (by decide +kernel)) V.1 V.2.1 (zw_D cy B sh M) (zS_self V.2.2.2.2.1) o q 0 0 (zw_at ho) (zw_at hq) rfl rfl rfl h1 h2 h3 h4 h5 (fun _ _ => rfl) (Nat.le_trans hr.1 C.2.2.2.2.2.2.2.2.1) (by rw [hcat]; exact Nat.le_trans hr.2 C.2.2.2.2.2.2.2.2.2.1) hd (fun H1 locs1 hP hD hS => ?_)
  have hP : va_P D zCL (zw cy B sh (zmr M q (va_cpy (M o) (M q) sp.toNatClampNeg dp.toNatClampNeg n.toNatClampNeg))) H1 := by rw [zw_same hq (zmr_ne M q _), zmr_row]; exact hP
  exact zW_size (fun hz => k p l e Rm s m args below meth c H1 locs1 cells slots D cy B ls C (zWd_write V hP hS hz rfl) hc hs hl)
end
section
/-! NEW CELLS, CALLS, RETURNS -/
theorem zN_warm {s U : State} (hW : s.WarmedH U.vm) (h : zNx s) : zNx U := by
  refine ⟨fun w hw => ?_, va_AO.moved hW.alike h.2⟩
  have h1 := h.1 w hw
  have h2 : zisN w = true := (List.mem_filter.mp hw).2
  cases w <;> first | exact va_Nw.warmM hW h1 | (simp [zisN] at h2)
theorem zN_vm {s U : State} (hv : s.vm = U.vm) (h : zNx s) : zNx U := by
  refine ⟨fun w hw => ?_, va_AO.moved (by rw [hv]; exact Vm.Alike.refl U.vm) h.2⟩
  have h1 := h.1 w hw
  have h2 : zisN w = true := (List.mem_filter.mp hw).2
  cases w <;> first | exact va_tabs rfl hv h1 | (simp [zisN] at h2)
theorem zG : GoodIn zgt zgt := fun w hw => ⟨hw, good_of_word (List.mem_filter.mp hw).2⟩
theorem zPre_blind (D : va_G) (cy : zCy) (B : Nat) (as : List Value) (sh : List zShp) (M : zMem) : FrameBlind (zPre D cy B as sh M) := by
  intro a U g mk q
  obtain ⟨q0, qK, qP, qz, qN⟩ := q
  exact ⟨q0, va_K.moved (u := U) (U := U.calling g mk a) (Vm.Alike.refl U.vm) qK, qP, qz, zN_vm (s := U) (U := U.calling g mk a) rfl qN⟩
section zCall
variable {p : Program} {l : Launch} {e : Env} {Rm : Room} {s : State} {m : MethodId} {args : Array Value} {below : List Frame} {meth : Method} {c : Code} {H : Heap} {locs : List Loc} {cells slots : Nat} {Q : State → Prop}
variable {D : va_G} {cy : zCy} {B : Nat} {ls : Array Slot} {sh : List zShp} {M : zMem}
theorem zPre_at {as : List Value} (hN : zNx s) (V : zWd D cy B s H locs cells sh M) : ∀ U : State, U.heap = H → s.WarmedH U.vm → zPre D cy B as sh M (as.map (zv B)).toArray U := by
  intro U hU hW
  exact ⟨rfl, va_K.moved hW.alike V.1, by rw [hU]; exact V.2.1, by rw [hU]; exact V.2.2.1, zN_warm hW hN⟩
/-- behind a call -/
theorem zW_cont {pc kc ks : Nat} {st0 rest : List Value} {R0 : zEnd} {a : Array Value} (hr : va_Run p l e Rm s m args below meth c H locs cells slots kc ks (F0 m pc ls st0) rest (zQC D cy B kc R0 a) (fun q => B ≤ q)) (V : zWd D cy B s H locs cells sh M)
    (kk : ∀ (v : Option Value) (sh1 : List zShp) (M1 : zMem) (H1 : Heap) (locs1 : List Loc), R0 v sh1 M1 → zWd D cy B s H1 locs1 (cells + kc) sh1 M1 → W p l e Rm s m args below meth c H1 locs1 (cells + kc) (slots + ks) Q (F0 m (pc + 3) ls ((v.map (zv B)).toList ++ rest))) : W p l e Rm s m args below meth c H locs cells slots Q (F0 m pc ls st0) := by
  intro T hT X
  obtain ⟨v, st₀, t, T', L, h0, X', hL, e1, e2, ⟨⟨w, sh1, M1, hv, hR, hK, hP, hz⟩, ⟨hF1, hF2⟩, hk⟩, st⟩ := hr T hT X
  obtain ⟨v1, v2, v3, v4, v5, v6⟩ := V
  cases hv
  rw [h0] at hF1 hF2 hk
  have hV : zWd D cy B s T'.heap (locs ++ L) (cells + kc) sh1 M1 := by
    refine ⟨v1, by rw [e1]; exact hP, by rw [e1]; exact hz, by rw [e1]; omega, ⟨Nat.le_trans v5.1 (by rw [e1]; exact hF1), fun q a1 a2 => ?_, fun q hq => ?_⟩, v6⟩
    · rw [e1, hF2 q (Nat.lt_of_lt_of_le a1 v5.1) a2]
      exact v5.2.1 q a1 a2
    · rcases List.mem_append.mp hq with h | h
      · exact v5.2.2 q h
      · exact hL q h
  obtain ⟨t2, a1, b1⟩ := kk w sh1 M1 T'.heap (locs ++ L) hR hV T' rfl X'
  exact ⟨t2, st t2 a1, b1⟩
end zCall
/-- how the entry ix of the class own comes to the method μ -/
def zCd (μ : zMI) : Prop := Cond.code μ.1 μ.2.1 μ.2.2.1 μ.2.2.2.1 ∈ zgt ∧ Cond.initialized μ.1.cls ∈ zgt ∧ (μ.1.cls ≠ "java/lang/invoke/MethodHandle" ∧ μ.1.cls ≠ "java/lang/invoke/VarHandle")
def zLV (own : String) (ix : Nat) (μ : zMI) (n : Nat) : Prop := zCd μ ∧ (parseMethodDescriptor μ.1.desc).map (fun d => d.parameters.length) = some n ∧ Cond.methodLink own ix μ.1 ∈ zgt ∧ Cond.instanceMethod μ.1 ∈ zgt ∧ Cond.selects μ.1.cls μ.1 μ.1 ∈ zgt
def zLVN (own host : String) (ix : Nat) (μ : zMI) (n : Nat) : Prop := zCd μ ∧ (parseMethodDescriptor μ.1.desc).map (fun d => d.parameters.length) = some n ∧ Cond.methodLinkNest own ix μ.1 host ∈ zns ∧ Cond.instanceMethod μ.1 ∈ zgt ∧ Cond.selects μ.1.cls μ.1 μ.1 ∈ zgt
def zLS (own : String) (ix : Nat) (μ : zMI) (n : Nat) : Prop := zCd μ ∧ (parseMethodDescriptor μ.1.desc).map (fun d => d.parameters.length) = some n ∧ Cond.methodLink own ix μ.1 ∈ zgt ∧ Cond.static μ.1 ∈ zgt
def zLSN (own host : String) (ix : Nat) (μ : zMI) (n : Nat) : Prop := zCd μ ∧ (parseMethodDescriptor μ.1.desc).map (fun d => d.parameters.length) = some n ∧ Cond.methodLinkNest own ix μ.1 host ∈ zns ∧ Cond.static μ.1 ∈ zgt
def zLI (own : String) (ix : Nat) (μ : zMI) (n : Nat) : Prop := zCd μ ∧ (parseMethodDescriptor μ.1.desc).map (fun d => d.parameters.length) = some n ∧ Cond.methodLink own ix μ.1 ∈ zgt ∧ Cond.instanceMethod μ.1 ∈ zgt ∧ μ.1.name = "<init>" ∧ μ.2.2.2.1 = none
def zLIN (own host : String) (ix : Nat) (μ : zMI) (n : Nat) : Prop := zCd μ ∧ (parseMethodDescriptor μ.1.desc).map (fun d => d.parameters.length) = some n ∧ Cond.methodLinkNest own ix μ.1 host ∈ zns ∧ Cond.instanceMethod μ.1 ∈ zgt ∧ μ.1.name = "<init>" ∧ μ.2.2.2.1 = none
theorem zgood_code {μ : zMI} (h : zCd μ) : GoodIn zgt (zws μ) := fun w hw => by
  rcases List.mem_cons.mp hw with rfl | h1
  · exact zG _ h.1
  · exact zG _ h1
/-- room for a call of ν out of μ -/
def zRo (μ ν : zMI) : Prop := ν.2.2.2.2.1 + 1 ≤ μ.2.2.2.2.1 ∧ 8 + (ν.2.2.1 + 11) + ν.2.2.2.2.2 ≤ μ.2.2.2.2.2
section zCall2
variable {p : Program} {l : Launch} {e : Env} {Rm : Room} {s : State} {m : MethodId} {args : Array Value} {below : List Frame} {meth : Method} {c : Code} {H : Heap} {locs : List Loc} {cells slots : Nat} {Q : State → Prop}
variable {D : va_G} {cy : zCy} {B : Nat} {ls : Array Slot} {sh : List zShp} {M : zMem} {cc : ByteArray} {nL pc kc ks ix n : Nat} {own host : String} {ν : zMI} {R0 : zEnd} {rest : List Value}
theorem zcall_hR (hfr : ν.2.2.2.2.1 + 1 ≤ Rm.frames) (hlo : 8 + (ν.2.2.1 + 11) + ν.2.2.2.2.2 ≤ Rm.locals) : ({ frames := ν.2.2.2.2.1, cells := kc, slots := ks, locals := ν.2.2.2.2.2 } : Room).frames + 1 ≤ Rm.frames ∧ 8 + (ν.2.2.1 + 11) + ({ frames := ν.2.2.2.2.1, cells := kc, slots := ks, locals := ν.2.2.2.2.2 } : Room).locals ≤ Rm.locals := ⟨hfr, hlo⟩
theorem zrun_V {o ci : Nat} {fs : List (Option (Option Nat))} {as : List Value} (S : CallFix p m c cc nL s args zgt own) (hN : zNx s) (V : zWd D cy B s H locs cells sh M) (hE : zEx ν kc ks (.ref o :: as) sh M R0) (L : zLV own ix ν n) (ho : sh[o]? = some (.inr (.inl (ci, fs)))) {T : u_T} {N : Nat} (hc : zCL[ci]? = some (ν.1.cls, T, N))
    (hfr : ν.2.2.2.2.1 + 1 ≤ Rm.frames) (hlo : 8 + (ν.2.2.1 + 11) + ν.2.2.2.2.2 ≤ Rm.locals) (hn : as.length = n) (hsize : ls.size = nL) (hW : (rest.map fun v => v.category).sum ≤ 8) (hdg : decode cc pc = .ok (.invokevirtual ix, 3)) (hf : cells + kc ≤ Rm.cells ∧ slots + ks ≤ Rm.slots) :
    va_Run p l e Rm s m args below meth c H locs cells slots kc ks (F0 m pc ls ((as.map (zv B)).reverse ++ .ref (B + o) :: rest)) rest (zQC D cy B kc R0 (((Value.ref o :: as).map (zv B)).toArray)) (fun q => B ≤ q) := by
  obtain ⟨hcd, hd, h1, h2, h3⟩ := L
  have hG : GoodIn zgt (wsV own ix ν.1.cls ν.1 (zws ν)) := fun w hw => by
    unfold wsV at hw
    rcases List.mem_append.mp hw with q | q
    · simp only [List.mem_cons, List.not_mem_nil, or_false] at q
      rcases q with rfl | rfl | rfl | rfl
      · exact zG _ h1
      · exact zG _ h2
      · exact zG _ h3
      · exact zG _ hcd.2.1
    · exact zgood_code hcd w q
  exact va_runV (As := as.map (zv B)) (rest := rest) (g := F0 m pc ls ((as.map (zv B)).reverse ++ .ref (B + o) :: rest)) S (hE l D cy B) (cwV n S.2.2.2.2 hG rfl rfl rfl ⟨rfl, hcd.2.2.1, hcd.2.2.2, hd⟩ (zcall_hR hfr hlo)) ⟨zPre_blind D cy B _ sh M, va_recv V.1 V.2.1 (ci := ci) (q0 := o) hc (zw_at ho), zPre_at (as := .ref o :: as) hN V⟩ rfl (by simp; exact hn) hsize rfl (lv_room hW) hdg hf
theorem zrun_VN {o ci : Nat} {fs : List (Option (Option Nat))} {as : List Value} (S : CallFix p m c cc nL s args zgt own) (hN : zNx s) (V : zWd D cy B s H locs cells sh M) (hE : zEx ν kc ks (.ref o :: as) sh M R0) (L : zLVN own host ix ν n) (ho : sh[o]? = some (.inr (.inl (ci, fs)))) {T : u_T} {N : Nat} (hc : zCL[ci]? = some (ν.1.cls, T, N))
    (hfr : ν.2.2.2.2.1 + 1 ≤ Rm.frames) (hlo : 8 + (ν.2.2.1 + 11) + ν.2.2.2.2.2 ≤ Rm.locals) (hn : as.length = n) (hsize : ls.size = nL) (hW : (rest.map fun v => v.category).sum ≤ 8) (hdg : decode cc pc = .ok (.invokevirtual ix, 3)) (hf : cells + kc ≤ Rm.cells ∧ slots + ks ≤ Rm.slots) :
    va_Run p l e Rm s m args below meth c H locs cells slots kc ks (F0 m pc ls ((as.map (zv B)).reverse ++ .ref (B + o) :: rest)) rest (zQC D cy B kc R0 (((Value.ref o :: as).map (zv B)).toArray)) (fun q => B ≤ q) := by
  obtain ⟨hcd, hd, h1, h2, h3⟩ := L
  exact va_runVN (C := ν.1.cls) (As := as.map (zv B)) (rest := rest) (g := F0 m pc ls ((as.map (zv B)).reverse ++ .ref (B + o) :: rest)) S (hE l D cy B) ⟨va_cnB n S.2.2.2.2 (zgood_code hcd) rfl rfl rfl (hN.1 _ h1) (S.2.2.2.2 _ hcd.2.1) ⟨hcd.2.2.1, hcd.2.2.2, hd⟩ (zcall_hR hfr hlo), S.2.2.2.2 _ h2, S.2.2.2.2 _ h3⟩ ⟨zPre_blind D cy B _ sh M, va_recv V.1 V.2.1 (ci := ci) (q0 := o) hc (zw_at ho), zPre_at (as := .ref o :: as) hN V⟩ rfl (by simp; exact hn) hsize rfl (lv_room hW) hdg hf
theorem zrun_S {as : List Value} (S : CallFix p m c cc nL s args zgt own) (hN : zNx s) (V : zWd D cy B s H locs cells sh M) (hE : zEx ν kc ks as sh M R0) (L : zLS own ix ν n)
    (hfr : ν.2.2.2.2.1 + 1 ≤ Rm.frames) (hlo : 8 + (ν.2.2.1 + 11) + ν.2.2.2.2.2 ≤ Rm.locals) (hn : as.length = n) (hsize : ls.size = nL) (hW : (rest.map fun v => v.category).sum ≤ 8) (hdg : decode cc pc = .ok (.invokestatic ix, 3)) (hf : cells + kc ≤ Rm.cells ∧ slots + ks ≤ Rm.slots) :
    va_Run p l e Rm s m args below meth c H locs cells slots kc ks (F0 m pc ls ((as.map (zv B)).reverse ++ rest)) rest (zQC D cy B kc R0 ((as.map (zv B)).toArray)) (fun q => B ≤ q) := by
  obtain ⟨hcd, hd, h1, h2⟩ := L
  have hG : GoodIn zgt (va_wsS own ix ν.1 (zws ν)) := fun w hw => by
    unfold va_wsS at hw
    rcases List.mem_append.mp hw with q | q
    · simp only [List.mem_cons, List.not_mem_nil, or_false] at q
      rcases q with rfl | rfl | rfl
      · exact zG _ h1
      · exact zG _ h2
      · exact zG _ hcd.2.1
    · exact zgood_code hcd w q
  exact va_runS (As := as.map (zv B)) (rest := rest) (g := F0 m pc ls ((as.map (zv B)).reverse ++ rest)) S (hE l D cy B) (va_cwS n S.2.2.2.2 hG rfl rfl rfl ⟨hcd.2.2.1, hcd.2.2.2, hd⟩ (zcall_hR hfr hlo)) ⟨zPre_blind D cy B _ sh M, zPre_at (as := as) hN V⟩ rfl (by simp; exact hn) hsize rfl (lv_room hW) hdg hf
theorem zrun_SN {as : List Value} (S : CallFix p m c cc nL s args zgt own) (hN : zNx s) (V : zWd D cy B s H locs cells sh M) (hE : zEx ν kc ks as sh M R0) (L : zLSN own host ix ν n)
    (hfr : ν.2.2.2.2.1 + 1 ≤ Rm.frames) (hlo : 8 + (ν.2.2.1 + 11) + ν.2.2.2.2.2 ≤ Rm.locals) (hn : as.length = n) (hsize : ls.size = nL) (hW : (rest.map fun v => v.category).sum ≤ 8) (hdg : decode cc pc = .ok (.invokestatic ix, 3)) (hf : cells + kc ≤ Rm.cells ∧ slots + ks ≤ Rm.slots) :
    va_Run p l e Rm s m args below meth c H locs cells slots kc ks (F0 m pc ls ((as.map (zv B)).reverse ++ rest)) rest (zQC D cy B kc R0 ((as.map (zv B)).toArray)) (fun q => B ≤ q) := by
  obtain ⟨hcd, hd, h1, h2⟩ := L
  exact va_runSN (As := as.map (zv B)) (rest := rest) (g := F0 m pc ls ((as.map (zv B)).reverse ++ rest)) S (hE l D cy B) ⟨va_cnB n S.2.2.2.2 (zgood_code hcd) rfl rfl rfl (hN.1 _ h1) (S.2.2.2.2 _ hcd.2.1) ⟨hcd.2.2.1, hcd.2.2.2, hd⟩ (zcall_hR hfr hlo), S.2.2.2.2 _ h2, trivial⟩ ⟨zPre_blind D cy B _ sh M, zPre_at (as := as) hN V⟩ rfl (by simp; exact hn) hsize rfl (lv_room hW) hdg hf
theorem zrun_I {o : Nat} {as : List Value} (S : CallFix p m c cc nL s args zgt own) (hN : zNx s) (V : zWd D cy B s H locs cells sh M) (hE : zEx ν kc ks (.ref o :: as) sh M R0) (L : zLI own ix ν n)
    (hfr : ν.2.2.2.2.1 + 1 ≤ Rm.frames) (hlo : 8 + (ν.2.2.1 + 11) + ν.2.2.2.2.2 ≤ Rm.locals) (hn : as.length = n) (hsize : ls.size = nL) (hW : (rest.map fun v => v.category).sum ≤ 8) (hdg : decode cc pc = .ok (.invokespecial ix, 3)) (hf : cells + kc ≤ Rm.cells ∧ slots + ks ≤ Rm.slots) :
    va_Run p l e Rm s m args below meth c H locs cells slots kc ks (F0 m pc ls ((as.map (zv B)).reverse ++ .ref (B + o) :: rest)) rest (zQC D cy B kc R0 (((Value.ref o :: as).map (zv B)).toArray)) (fun q => B ≤ q) := by
  obtain ⟨hcd, hd, h1, h2, h3, h4⟩ := L
  have hws : zws ν = Cond.code ν.1 ν.2.1 ν.2.2.1 none :: zgt := by rw [← h4]; rfl
  exact va_runI (As := as.map (zv B)) (rest := rest) (g := F0 m pc ls ((as.map (zv B)).reverse ++ .ref (B + o) :: rest)) S (hE l D cy B) (cwI n S.2.2.2.2 (zgood_code hcd) hws rfl rfl (S.2.2.2.2 _ hcd.2.1) (S.2.2.2.2 _ h1) (S.2.2.2.2 _ h2) h3 ⟨hcd.2.2.1, hcd.2.2.2, hd⟩ (zcall_hR hfr hlo)) ⟨zPre_blind D cy B _ sh M, zPre_at (as := .ref o :: as) hN V⟩ rfl (by simp; exact hn) hsize rfl (lv_room hW) hdg hf
theorem zrun_IN {o : Nat} {as : List Value} (S : CallFix p m c cc nL s args zgt own) (hN : zNx s) (V : zWd D cy B s H locs cells sh M) (hE : zEx ν kc ks (.ref o :: as) sh M R0) (L : zLIN own host ix ν n)
    (hfr : ν.2.2.2.2.1 + 1 ≤ Rm.frames) (hlo : 8 + (ν.2.2.1 + 11) + ν.2.2.2.2.2 ≤ Rm.locals) (hn : as.length = n) (hsize : ls.size = nL) (hW : (rest.map fun v => v.category).sum ≤ 8) (hdg : decode cc pc = .ok (.invokespecial ix, 3)) (hf : cells + kc ≤ Rm.cells ∧ slots + ks ≤ Rm.slots) :
    va_Run p l e Rm s m args below meth c H locs cells slots kc ks (F0 m pc ls ((as.map (zv B)).reverse ++ .ref (B + o) :: rest)) rest (zQC D cy B kc R0 (((Value.ref o :: as).map (zv B)).toArray)) (fun q => B ≤ q) := by
  obtain ⟨hcd, hd, h1, h2, h3, h4⟩ := L
  have hws : zws ν = Cond.code ν.1 ν.2.1 ν.2.2.1 none :: zgt := by rw [← h4]; rfl
  exact va_runIN (As := as.map (zv B)) (rest := rest) (g := F0 m pc ls ((as.map (zv B)).reverse ++ .ref (B + o) :: rest)) S (hE l D cy B) ⟨va_cnB n S.2.2.2.2 (zgood_code hcd) hws rfl rfl (hN.1 _ h1) (S.2.2.2.2 _ hcd.2.1) ⟨hcd.2.2.1, hcd.2.2.2, hd⟩ (zcall_hR hfr hlo), h3, S.2.2.2.2 _ h2⟩ ⟨zPre_blind D cy B _ sh M, zPre_at (as := .ref o :: as) hN V⟩ rfl (by simp; exact hn) hsize rfl (lv_room hW) hdg hf
end zCall2
end
section
theorem zst_sum (B : Nat) (st : List Value) : ((st.map (zv B)).map fun v => v.category).sum = (st.map fun v => v.category).sum := by simp [Function.comp_def, zv_cat]
theorem zCx_fix {μ : zMI} {p : Program} {Rm : Room} {s : State} {m : MethodId} {args : Array Value} {meth : Method} {c : Code} (C : zCx μ p Rm s m args meth c) : CallFix p m c μ.2.1 μ.2.2.1 s args zgt μ.1.cls := ⟨C.1, C.2.1, C.2.2.2.1, C.2.2.2.2.1, C.2.2.2.2.2.1⟩
theorem zCx_N {μ : zMI} {p : Program} {Rm : Room} {s : State} {m : MethodId} {args : Array Value} {meth : Method} {c : Code} (C : zCx μ p Rm s m args meth c) : zNx s := C.2.2.2.2.2.2.2.2.2.2
theorem zCx_fr {μ ν : zMI} {p : Program} {Rm : Room} {s : State} {m : MethodId} {args : Array Value} {meth : Method} {c : Code} (C : zCx μ p Rm s m args meth c) (h : zRo μ ν) : ν.2.2.2.2.1 + 1 ≤ Rm.frames := Nat.le_trans h.1 C.2.2.2.2.2.2.2.2.1
theorem zCx_lo {μ ν : zMI} {p : Program} {Rm : Room} {s : State} {m : MethodId} {args : Array Value} {meth : Method} {c : Code} (C : zCx μ p Rm s m args meth c) (h : zRo μ ν) : 8 + (ν.2.2.1 + 11) + ν.2.2.2.2.2 ≤ Rm.locals := Nat.le_trans h.2 C.2.2.2.2.2.2.2.2.2.1
theorem zs_callV {μ : zMI} {kc ks pc : Nat} {lv : List (Nat × Value)} {st : List Value} {sh : List zShp} {M : zMem} {R : zEnd}  {ν : zMI} {R0 : zEnd} {ix n kc1 ks1 : Nat} (as : List Value) {o : Nat} {ci : Nat} {fs : List (Option (Option Nat))} {T : u_T} {N : Nat} (hd : decode μ.2.1 pc = .ok (.invokevirtual ix, 3)) (L : zLV μ.1.cls ix ν n) (hr : zRo μ ν) (hn : as.length = n) (ho : sh[o]? = some (.inr (.inl (ci, fs)))) (hci : zCL[ci]? = some (ν.1.cls, T, N)) (hW : (st.map fun v => v.category).sum ≤ 8) (hE : zEx ν kc1 ks1 (.ref o :: as) sh M R0) (kk : ∀ (v : Option Value) (sh1 : List zShp) (M1 : zMem), R0 v sh1 M1 → zRT μ kc ks (pc + 3) lv (v.toList ++ st) sh1 M1 R) : zRT μ (kc1 + kc) (ks1 + ks) pc lv (as.reverse ++ .ref o :: st) sh M R := by
  intro p l e Rm s m args below meth c H locs cells slots D cy B ls C V hc hs hl
  rw [List.map_append, List.map_reverse, List.map_cons]
  refine zW_cont (zrun_V (zCx_fix C) (zCx_N C) V hE L ho hci (zCx_fr C hr) (zCx_lo C hr) hn hl.1 (by rw [zst_sum]; exact hW) hd ⟨by omega, by omega⟩) V (fun v sh1 M1 H1 locs1 hR V1 => ?_)
  have k := kk v sh1 M1 hR p l e Rm s m args below meth c H1 locs1 (cells + kc1) (slots + ks1) D cy B ls C V1 (by omega) (by omega) hl
  rw [List.map_append] at k
  cases v <;> exact k
theorem zs_callVN {μ : zMI} {kc ks pc : Nat} {lv : List (Nat × Value)} {st : List Value} {sh : List zShp} {M : zMem} {R : zEnd} {host : String} {ν : zMI} {R0 : zEnd} {ix n kc1 ks1 : Nat} (as : List Value) {o : Nat} {ci : Nat} {fs : List (Option (Option Nat))} {T : u_T} {N : Nat} (hd : decode μ.2.1 pc = .ok (.invokevirtual ix, 3)) (L : zLVN μ.1.cls host ix ν n) (hr : zRo μ ν) (hn : as.length = n) (ho : sh[o]? = some (.inr (.inl (ci, fs)))) (hci : zCL[ci]? = some (ν.1.cls, T, N)) (hW : (st.map fun v => v.category).sum ≤ 8) (hE : zEx ν kc1 ks1 (.ref o :: as) sh M R0) (kk : ∀ (v : Option Value) (sh1 : List zShp) (M1 : zMem), R0 v sh1 M1 → zRT μ kc ks (pc + 3) lv (v.toList ++ st) sh1 M1 R) : zRT μ (kc1 + kc) (ks1 + ks) pc lv (as.reverse ++ .ref o :: st) sh M R := by
  intro p l e Rm s m args below meth c H locs cells slots D cy B ls C V hc hs hl
  rw [List.map_append, List.map_reverse, List.map_cons]
  refine zW_cont (zrun_VN (zCx_fix C) (zCx_N C) V hE L ho hci (zCx_fr C hr) (zCx_lo C hr) hn hl.1 (by rw [zst_sum]; exact hW) hd ⟨by omega, by omega⟩) V (fun v sh1 M1 H1 locs1 hR V1 => ?_)
  have k := kk v sh1 M1 hR p l e Rm s m args below meth c H1 locs1 (cells + kc1) (slots + ks1) D cy B ls C V1 (by omega) (by omega) hl
  rw [List.map_append] at k
  cases v <;> exact k
theorem zs_callS {μ : zMI} {kc ks pc : Nat} {lv : List (Nat × Value)} {st : List Value} {sh : List zShp} {M : zMem} {R : zEnd}  {ν : zMI} {R0 : zEnd} {ix n kc1 ks1 : Nat} (as : List Value) (hd : decode μ.2.1 pc = .ok (.invokestatic ix, 3)) (L : zLS μ.1.cls ix ν n) (hr : zRo μ ν) (hn : as.length = n) (hW : (st.map fun v => v.category).sum ≤ 8) (hE : zEx ν kc1 ks1 (as) sh M R0) (kk : ∀ (v : Option Value) (sh1 : List zShp) (M1 : zMem), R0 v sh1 M1 → zRT μ kc ks (pc + 3) lv (v.toList ++ st) sh1 M1 R) : zRT μ (kc1 + kc) (ks1 + ks) pc lv (as.reverse ++ st) sh M R := by
  intro p l e Rm s m args below meth c H locs cells slots D cy B ls C V hc hs hl
  rw [List.map_append, List.map_reverse]
  refine zW_cont (zrun_S (zCx_fix C) (zCx_N C) V hE L (zCx_fr C hr) (zCx_lo C hr) hn hl.1 (by rw [zst_sum]; exact hW) hd ⟨by omega, by omega⟩) V (fun v sh1 M1 H1 locs1 hR V1 => ?_)
  have k := kk v sh1 M1 hR p l e Rm s m args below meth c H1 locs1 (cells + kc1) (slots + ks1) D cy B ls C V1 (by omega) (by omega) hl
  rw [List.map_append] at k
  cases v <;> exact k
theorem zs_callSN {μ : zMI} {kc ks pc : Nat} {lv : List (Nat × Value)} {st : List Value} {sh : List zShp} {M : zMem} {R : zEnd} {host : String} {ν : zMI} {R0 : zEnd} {ix n kc1 ks1 : Nat} (as : List Value) (hd : decode μ.2.1 pc = .ok (.invokestatic ix, 3)) (L : zLSN μ.1.cls host ix ν n) (hr : zRo μ ν) (hn : as.length = n) (hW : (st.map fun v => v.category).sum ≤ 8) (hE : zEx ν kc1 ks1 (as) sh M R0) (kk : ∀ (v : Option Value) (sh1 : List zShp) (M1 : zMem), R0 v sh1 M1 → zRT μ kc ks (pc + 3) lv (v.toList ++ st) sh1 M1 R) : zRT μ (kc1 + kc) (ks1 + ks) pc lv (as.reverse ++ st) sh M R := by
  intro p l e Rm s m args below meth c H locs cells slots D cy B ls C V hc hs hl
  rw [List.map_append, List.map_reverse]
  refine zW_cont (zrun_SN (zCx_fix C) (zCx_N C) V hE L (zCx_fr C hr) (zCx_lo C hr) hn hl.1 (by rw [zst_sum]; exact hW) hd ⟨by omega, by omega⟩) V (fun v sh1 M1 H1 locs1 hR V1 => ?_)
  have k := kk v sh1 M1 hR p l e Rm s m args below meth c H1 locs1 (cells + kc1) (slots + ks1) D cy B ls C V1 (by omega) (by omega) hl
  rw [List.map_append] at k
  cases v <;> exact k
theorem zs_callI {μ : zMI} {kc ks pc : Nat} {lv : List (Nat × Value)} {st : List Value} {sh : List zShp} {M : zMem} {R : zEnd}  {ν : zMI} {R0 : zEnd} {ix n kc1 ks1 : Nat} (as : List Value) {o : Nat} (hd : decode μ.2.1 pc = .ok (.invokespecial ix, 3)) (L : zLI μ.1.cls ix ν n) (hr : zRo μ ν) (hn : as.length = n) (hW : (st.map fun v => v.category).sum ≤ 8) (hE : zEx ν kc1 ks1 (.ref o :: as) sh M R0) (kk : ∀ (v : Option Value) (sh1 : List zShp) (M1 : zMem), R0 v sh1 M1 → zRT μ kc ks (pc + 3) lv (v.toList ++ st) sh1 M1 R) : zRT μ (kc1 + kc) (ks1 + ks) pc lv (as.reverse ++ .ref o :: st) sh M R := by
  intro p l e Rm s m args below meth c H locs cells slots D cy B ls C V hc hs hl
  rw [List.map_append, List.map_reverse, List.map_cons]
  refine zW_cont (zrun_I (zCx_fix C) (zCx_N C) V hE L (zCx_fr C hr) (zCx_lo C hr) hn hl.1 (by rw [zst_sum]; exact hW) hd ⟨by omega, by omega⟩) V (fun v sh1 M1 H1 locs1 hR V1 => ?_)
  have k := kk v sh1 M1 hR p l e Rm s m args below meth c H1 locs1 (cells + kc1) (slots + ks1) D cy B ls C V1 (by omega) (by omega) hl
  rw [List.map_append] at k
  cases v <;> exact k
theorem zs_callIN {μ : zMI} {kc ks pc : Nat} {lv : List (Nat × Value)} {st : List Value} {sh : List zShp} {M : zMem} {R : zEnd} {host : String} {ν : zMI} {R0 : zEnd} {ix n kc1 ks1 : Nat} (as : List Value) {o : Nat} (hd : decode μ.2.1 pc = .ok (.invokespecial ix, 3)) (L : zLIN μ.1.cls host ix ν n) (hr : zRo μ ν) (hn : as.length = n) (hW : (st.map fun v => v.category).sum ≤ 8) (hE : zEx ν kc1 ks1 (.ref o :: as) sh M R0) (kk : ∀ (v : Option Value) (sh1 : List zShp) (M1 : zMem), R0 v sh1 M1 → zRT μ kc ks (pc + 3) lv (v.toList ++ st) sh1 M1 R) : zRT μ (kc1 + kc) (ks1 + ks) pc lv (as.reverse ++ .ref o :: st) sh M R := by
  intro p l e Rm s m args below meth c H locs cells slots D cy B ls C V hc hs hl
  rw [List.map_append, List.map_reverse, List.map_cons]
  refine zW_cont (zrun_IN (zCx_fix C) (zCx_N C) V hE L (zCx_fr C hr) (zCx_lo C hr) hn hl.1 (by rw [zst_sum]; exact hW) hd ⟨by omega, by omega⟩) V (fun v sh1 M1 H1 locs1 hR V1 => ?_)
  have k := kk v sh1 M1 hR p l e Rm s m args below meth c H1 locs1 (cells + kc1) (slots + ks1) D cy B ls C V1 (by omega) (by omega) hl
  rw [List.map_append] at k
  cases v <;> exact k
theorem zs_iret {μ : zMI} {ks pc : Nat} {lv : List (Nat × Value)} {sh : List zShp} {M : zMem} {R : zEnd} {v : Int32} (hd : decode μ.2.1 pc = .ok (.ireturn, 1)) (hret : μ.2.2.2.1 = some .int) (hR : R (some (.int v)) sh M) : zRT μ 0 ks pc lv [.int v] sh M R := by
  intro p l e Rm s m args below meth c H locs cells slots D cy B ls C V hc hs hl
  refine W.widen (k := Rm.cells) (n := Rm.slots) (by omega) (by omega) ?_
  exact W.iret C.1 C.2.1 (C.2.2.1.trans hret) (fun t ht hW => ⟨⟨some (.int v), sh, M, rfl, hR, va_K.moved hW.alike V.1, by rw [ht]; exact V.2.1, by rw [ht]; exact V.2.2.1⟩, V.2.2.2.2.1.F ht, by rw [ht]; have := V.2.2.2.1; omega⟩) V.2.2.2.2.1.2.2 hd C.2.2.2.2.2.2.1
theorem zs_lret {μ : zMI} {ks pc : Nat} {lv : List (Nat × Value)} {sh : List zShp} {M : zMem} {R : zEnd} {v : Int64} (hd : decode μ.2.1 pc = .ok (.lreturn, 1)) (hret : μ.2.2.2.1 = some .long) (hR : R (some (.long v)) sh M) : zRT μ 0 ks pc lv [.long v] sh M R := by
  intro p l e Rm s m args below meth c H locs cells slots D cy B ls C V hc hs hl
  refine W.widen (k := Rm.cells) (n := Rm.slots) (by omega) (by omega) ?_
  exact W.lret C.1 C.2.1 (C.2.2.1.trans hret) (fun t ht hW => ⟨⟨some (.long v), sh, M, rfl, hR, va_K.moved hW.alike V.1, by rw [ht]; exact V.2.1, by rw [ht]; exact V.2.2.1⟩, V.2.2.2.2.1.F ht, by rw [ht]; have := V.2.2.2.1; omega⟩) V.2.2.2.2.1.2.2 hd C.2.2.2.2.2.2.1
theorem zs_vret {μ : zMI} {ks pc : Nat} {lv : List (Nat × Value)} {sh : List zShp} {M : zMem} {R : zEnd} (hd : decode μ.2.1 pc = .ok (.return_, 1)) (hret : μ.2.2.2.1 = none) (hR : R (none) sh M) : zRT μ 0 ks pc lv [] sh M R := by
  intro p l e Rm s m args below meth c H locs cells slots D cy B ls C V hc hs hl
  refine W.widen (k := Rm.cells) (n := Rm.slots) (by omega) (by omega) ?_
  exact W.vret C.1 C.2.1 (C.2.2.1.trans hret) (fun t ht hW => ⟨⟨none, sh, M, rfl, hR, va_K.moved hW.alike V.1, by rw [ht]; exact V.2.1, by rw [ht]; exact V.2.2.1⟩, V.2.2.2.2.1.F ht, by rw [ht]; have := V.2.2.2.1; omega⟩) V.2.2.2.2.1.2.2 hd C.2.2.2.2.2.2.1
theorem zs_zret {μ : zMI} {ks pc : Nat} {lv : List (Nat × Value)} {sh : List zShp} {M : zMem} {R : zEnd} {v : Int32} (hn : narrow .boolean (.int v) = .int v) (hd : decode μ.2.1 pc = .ok (.ireturn, 1)) (hret : μ.2.2.2.1 = some .boolean) (hR : R (some (.int v)) sh M) : zRT μ 0 ks pc lv [.int v] sh M R := by
  intro p l e Rm s m args below meth c H locs cells slots D cy B ls C V hc hs hl
  refine W.widen (k := Rm.cells) (n := Rm.slots) (by omega) (by omega) ?_
  exact W.zret C.1 C.2.1 (C.2.2.1.trans hret) hn (fun t ht hW => ⟨⟨some (.int v), sh, M, rfl, hR, va_K.moved hW.alike V.1, by rw [ht]; exact V.2.1, by rw [ht]; exact V.2.2.1⟩, V.2.2.2.2.1.F ht, by rw [ht]; have := V.2.2.2.1; omega⟩) V.2.2.2.2.1.2.2 hd C.2.2.2.2.2.2.1
theorem zEx_of {μ : zMI} {kc ks : Nat} {as : List Value} {sh : List zShp} {M : zMem} {R : zEnd} (lv : List (Nat × Value)) (hy : plainName μ.1.cls = true) (hcat : ∀ v ∈ as, v.category = 1) (hlen : as.length ≤ μ.2.2.1) (hlv : lv_args 0 as = lv) (k : zRT μ kc ks 0 lv [] sh M R) : zEx μ kc ks as sh M R := by
  intro l D cy B
  refine Met.ofW (cc := μ.2.1) (maxL := μ.2.2.1) (ret := μ.2.2.2.1) hy rfl ?_
  intro p e s m args below meth c s₁ Bd hml hv
  obtain ⟨rfl, hK, hP, hz, hN⟩ := hv
  have hts := atoms_spec (ws := zws μ) Bd.pre
  have hcat2 : ∀ v ∈ as.map (zv B), v.category = 1 := fun v hv => by
    obtain ⟨w, hw, rfl⟩ := List.mem_map.mp hv
    rw [zv_cat]; exact hcat w hw
  have hsl : ∀ vs : List Value, (∀ v ∈ vs, v.category = 1) → (lg_sl vs).length = vs.length := by
    intro vs
    induction vs with
    | nil => intro _; rfl
    | cons v vs ih =>
      intro h
      have h1 := h v List.mem_cons_self
      have h2 := ih (fun w hw => h w (List.mem_cons_of_mem _ hw))
      simp only [lg_sl, List.flatMap_cons, h1, List.length_append] at h2 ⊢
      simp at h2 ⊢
      omega
  have hargs : ∀ (vs : List Value) (i : Nat), lv_args i (vs.map (zv B)) = (lv_args i vs).map (fun q => (q.1, zv B q.2)) := by
    intro vs
    induction vs with
    | nil => intro i; rfl
    | cons v vs ih =>
      intro i
      simp only [List.map_cons, lv_args, zv_cat, ih]
  have hl := lv_entry (as.map (zv B)) (n := μ.2.2.1) (by rw [hsl _ hcat2, List.length_map]; exact hlen)
  rw [lg_entry_eq]
  generalize (lg_sl (as.map (zv B)) ++ List.replicate (μ.2.2.1 - (lg_sl (as.map (zv B))).length) Slot.unset).toArray = ls at hl ⊢
  rw [hargs, hlv] at hl
  exact k p l e _ s m _ below meth c s.heap [] 0 0 D cy B ls ⟨Bd.exec, Bd.bytes, Bd.returns, hml, findClass_of_methodNamed Bd.named, fun w hw => hts w (List.mem_cons_of_mem _ hw), Bd.notSynchronized, (name_of_methodNamed Bd.named Bd.method).1, Nat.le_refl _, Nat.le_refl _, hN⟩ ⟨hK, hP, hz, rfl, va_S.rf, by omega⟩ (Nat.zero_add _) (Nat.le_of_eq (Nat.zero_add _)) hl
theorem zEx_mono {μ : zMI} {kc ks : Nat} {as : List Value} {sh : List zShp} {M : zMem} {R R2 : zEnd} (h : zEx μ kc ks as sh M R) (hR : ∀ v sh1 M1, R v sh1 M1 → R2 v sh1 M1) : zEx μ kc ks as sh M R2 := by
  intro l D cy B
  intro p e a1 a2 a3 s m args below a4 a5 a6 a7
  obtain ⟨k, o, b1, b2, b3, ⟨⟨v, sh1, M1, h1, h2, h3⟩, h4⟩, h5⟩ := h l D cy B p e a1 a2 a3 s m args below a4 a5 a6 a7
  exact ⟨k, o, b1, b2, b3, ⟨⟨v, sh1, M1, h1, hR _ _ _ h2, h3⟩, h4⟩, h5⟩
end
section
def zNW (own : String) (ix ci N : Nat) (fs : List (Option (Option Nat))) : Prop := ∃ (Cn : String) (T : u_T) (t : Nat → FieldType), zCL[ci]? = some (Cn, T, N) ∧ (∀ w ∈ u_ws Cn T N, w ∈ zgt) ∧ (∀ k, k < N → parseFieldDescriptor (T k).2.2.1 = some (t k)) ∧ Cond.classLink own ix Cn ∈ zgt ∧ Cond.instantiable Cn N ∈ zgt ∧ Cond.initialized Cn ∈ zgt ∧ (∀ j, j < N → defaultValue (t j) = vp_V (fs.mapIdx (fun j x => zfv (fun _ => 0) j x)) j) ∧ (∀ x ∈ fs, x = none ∨ x = some none)
/-- a new cell: the world behind it -/
theorem zWd_new {D : va_G} {cy : zCy} {B : Nat} {s : State} {H H1 : Heap} {locs : List Loc} {cells : Nat} {sh : List zShp} {M : zMem} (V : zWd D cy B s H locs cells sh M) (cc : zShp) (z1 : H1.size = H.size + 1) (o1 : ∀ q, q < H.size → H1[q]? = H[q]?) (h : va_at D zCL (H.size, zc cy B (fun _ => 0) cc) H1) : zWd D cy B s H1 locs (cells + 1) (sh ++ [cc]) (zmr M sh.length (fun _ => 0)) := by
  obtain ⟨v1, v2, v3, v4, v5, v6⟩ := V
  refine ⟨v1, ?_, by rw [z1, v3, List.length_append]; rfl, by omega, ⟨by have := v5.1; omega, fun q a b => (o1 q (Nat.lt_of_lt_of_le a v5.1)).trans (v5.2.1 q a b), v5.2.2⟩, v6⟩
  rw [zw_push, ← v3]
  refine (v2.kept (fun k x hx => o1 x.1 ((v2 k x hx).lt))).app (fun k x hx => ?_)
  have hz : k < 1 := (List.getElem?_eq_some_iff.mp hx).1
  rw [show k = 0 by omega] at hx
  cases hx
  exact h
theorem zs_new {μ : zMI} {kc ks pc : Nat} {lv : List (Nat × Value)} {st : List Value} {sh : List zShp} {M : zMem} {R : zEnd} {ix ci N : Nat} {fs : List (Option (Option Nat))} (hd : decode μ.2.1 pc = .ok (.new ix, 3)) (F : zNW μ.1.cls ix ci N fs) (k : zRT μ kc ks (pc + 3) lv (.ref sh.length :: st) (sh ++ [.inr (.inl (ci, fs))]) (zmr M sh.length (fun _ => 0)) R) : zRT μ (kc + 1) (ks + N) pc lv st sh M R := by
  intro p l e Rm s m args below meth c H locs cells slots D cy B ls C V hc hs hl
  obtain ⟨Cn, T, t, h1, h2, h3, h4, h5, h6, h7, h8⟩ := F
  have hts := C.2.2.2.2.2.1
  have hKn := V.1.1 ci _ h1
  refine W.newcK C.1 C.2.1 C.2.2.2.2.1 (hts _ h4) (hts _ h5) (hts _ h6) rfl hd (by omega) (by omega) hKn.2.1 rfl fun H1 kC hkC e1 z1 o1 => ?_
  have hfs : fs.mapIdx (fun j x => zv B (zfv (fun _ => 0) j x)) = fs.mapIdx (fun j x => zfv (fun _ => 0) j x) := by
    refine List.ext_getElem? fun j => ?_
    simp only [List.getElem?_mapIdx]
    cases hj : fs[j]? with
    | none => rfl
    | some x =>
      rcases h8 x (List.mem_of_getElem? hj) with rfl | rfl <;> rfl
  have hV := zWd_new V (.inr (.inl (ci, fs))) z1 o1 ⟨_, h1, by
    show t_OB H.size (D.1 ci) N (D.2 ci) H1 (vp_V (fs.mapIdx (fun j x => zv B (zfv (fun _ => 0) j x))))
    rw [hfs]
    exact (u_born t hts h2 hKn hkC e1 h3).to h7⟩
  have k := k p l e Rm s m args below meth c H1 locs (cells + 1) (slots + N) D cy B ls C hV (by omega) (by omega) hl
  rw [List.map_cons, show zv B (.ref sh.length) = .ref (B + sh.length) from rfl, ← V.2.2.1] at k
  exact k
theorem zs_newa {μ : zMI} {kc ks pc : Nat} {lv : List (Nat × Value)} {st : List Value} {sh : List zShp} {M : zMem} {R : zEnd} {n : Int32} {N : Nat} (hd : decode μ.2.1 pc = .ok (.newarray .int, 2)) (hn : ¬ n < 0) (hN : n.toNatClampNeg = N) (hb : N * componentBytes (newarray.typeOf .int) ≤ 536870912) (k : zRT μ kc ks (pc + 2) lv (.ref sh.length :: st) (sh ++ [.inl (0, N)]) (zmr M sh.length (fun _ => 0)) R) : zRT μ (kc + 1) (ks + N) pc lv (.int n :: st) sh M R := by
  intro p l e Rm s m args below meth c H locs cells slots D cy B ls C V hc hs hl
  have hts := C.2.2.2.2.2.1
  have hac : (Cond.arrayClass (newarray.typeOf .int)).before args s = true := hts (.arrayClass .int) (by decide +kernel)
  have hc1 : cells + 1 ≤ Rm.cells := by omega
  have hs1 : slots + N ≤ Rm.slots := by omega
  refine va_newaK (atype := .int) (g := F0 m pc ls (.int n :: st.map (zv B))) (rest := st.map (zv B)) (n := n) (N := N) C.1 C.2.1 hac rfl hd rfl hn hN hb hc1 hs1 (h := H.size) rfl fun H1 cA e1 z1 o1 hAr hNm => ?_
  have hcy : cA = cy.1 := by
    have h := (V.1.2 0 (cy.1, .int) rfl).2
    exact Option.some.inj (hNm.symm.trans h)
  subst hcy
  have hV := zWd_new V (.inl (0, N)) z1 o1 (by
    show H1[H.size]? = some (vp_cell cy.1 (N, .inl (fun _ => 0)))
    exact e1)
  have k := k p l e Rm s m args below meth c H1 locs (cells + 1) (slots + N) D cy B ls C hV (by omega) (by omega) hl
  rw [List.map_cons, show zv B (.ref sh.length) = .ref (B + sh.length) from rfl, ← V.2.2.1] at k
  exact k
theorem zs_newz {μ : zMI} {kc ks pc : Nat} {lv : List (Nat × Value)} {st : List Value} {sh : List zShp} {M : zMem} {R : zEnd} {n : Int32} {N : Nat} (hd : decode μ.2.1 pc = .ok (.newarray .boolean, 2)) (hn : ¬ n < 0) (hN : n.toNatClampNeg = N) (hb : N * componentBytes (newarray.typeOf .boolean) ≤ 536870912) (k : zRT μ kc ks (pc + 2) lv (.ref sh.length :: st) (sh ++ [.inl (1, N)]) (zmr M sh.length (fun _ => 0)) R) : zRT μ (kc + 1) (ks + N) pc lv (.int n :: st) sh M R := by
  intro p l e Rm s m args below meth c H locs cells slots D cy B ls C V hc hs hl
  have hts := C.2.2.2.2.2.1
  have hac : (Cond.arrayClass (newarray.typeOf .boolean)).before args s = true := hts (.arrayClass .boolean) (by decide +kernel)
  have hc1 : cells + 1 ≤ Rm.cells := by omega
  have hs1 : slots + N ≤ Rm.slots := by omega
  refine va_newaK (atype := .boolean) (g := F0 m pc ls (.int n :: st.map (zv B))) (rest := st.map (zv B)) (n := n) (N := N) C.1 C.2.1 hac rfl hd rfl hn hN hb hc1 hs1 (h := H.size) rfl fun H1 cA e1 z1 o1 hAr hNm => ?_
  have hcy : cA = cy.2.1 := by
    have h := (V.1.2 1 (cy.2.1, .boolean) rfl).2
    exact Option.some.inj (hNm.symm.trans h)
  subst hcy
  have hV := zWd_new V (.inl (1, N)) z1 o1 (by
    show H1[H.size]? = some (vp_cell cy.2.1 (N, .inl (fun _ => 0)))
    exact e1)
  have k := k p l e Rm s m args below meth c H1 locs (cells + 1) (slots + N) D cy B ls C hV (by omega) (by omega) hl
  rw [List.map_cons, show zv B (.ref sh.length) = .ref (B + sh.length) from rfl, ← V.2.2.1] at k
  exact k
theorem zs_newr {μ : zMI} {kc ks pc : Nat} {lv : List (Nat × Value)} {st : List Value} {sh : List zShp} {M : zMem} {R : zEnd} {n : Int32} {N ix : Nat} (hd : decode μ.2.1 pc = .ok (.anewarray ix, 3)) (hw : Cond.classLink μ.1.cls ix "OthersHands$Town" ∈ zgt) (hn : ¬ n < 0) (hN : n.toNatClampNeg = N) (hb : N * 4 ≤ 536870912) (k : zRT μ kc ks (pc + 3) lv (.ref sh.length :: st) (sh ++ [.inr (.inr (N, fun _ => none))]) (zmr M sh.length (fun _ => 0)) R) : zRT μ (kc + 1) (ks + N) pc lv (.int n :: st) sh M R := by
  intro p l e Rm s m args below meth c H locs cells slots D cy B ls C V hc hs hl
  have hts := C.2.2.2.2.2.1
  subst hN
  refine W.anew C.1 C.2.1 C.2.2.2.2.1 (hts _ hw) (va_AO.use (zCx_N C).2) rfl hd rfl hn hb (by omega) (by omega) fun cA kA comp f1 f2 f3 f4 => ?_
  generalize hH1 : H.push ({ cls := cA, slots := Array.replicate n.toNatClampNeg .null, vm := .none } : Cell) = H1
  have z1 : H1.size = H.size + 1 := by rw [← hH1, Array.size_push]
  have e1 : H1[H.size]? = some (arrV cA n.toNatClampNeg (fun _ => .null)) := by rw [← hH1, Array.getElem?_push_size, ← arrV_new]
  have o1 : ∀ q : Nat, q < H.size → H1[q]? = H[q]? := fun q hq => by rw [← hH1, Array.getElem?_push, if_neg (Nat.ne_of_lt hq)]
  have hcy : cA = cy.2.2 := by
    obtain ⟨_, _, -, -, -, h⟩ := (V.1.2 2 (cy.2.2, .object "OthersHands$Town") rfl).2
    exact Option.some.inj (f1.symm.trans h)
  subst hcy
  have hV := zWd_new V (.inr (.inr (n.toNatClampNeg, fun _ => none))) z1 o1 (by
    show H1[H.size]? = some (vp_cell cy.2.2 (n.toNatClampNeg, .inr (.inr (.inr (.inr (fun _ => none))))))
    exact e1)
  have k := k p l e Rm s m args below meth c H1 locs (cells + 1) (slots + n.toNatClampNeg) D cy B ls C hV (by omega) (by omega) hl
  rw [List.map_cons, show zv B (.ref sh.length) = .ref (B + sh.length) from rfl, ← V.2.2.1] at k
  exact k
theorem zs_objInit {μ : zMI} {kc ks pc : Nat} {lv : List (Nat × Value)} {st : List Value} {sh : List zShp} {M : zMem} {R : zEnd} {ix o : Nat} (hd : decode μ.2.1 pc = .ok (.invokespecial ix, 3)) (hw : Cond.methodLink μ.1.cls ix Lib.objectInit ∈ zgt) (hr : 1 ≤ μ.2.2.2.2.1 ∧ (st.map fun v => v.category).sum + 12 ≤ μ.2.2.2.2.2) (k : zRT μ kc ks (pc + 3) lv st sh M R) : zRT μ kc ks pc lv (.ref o :: st) sh M R := by
  intro p l e Rm s m args below meth c H locs cells slots D cy B ls C V hc hs hl
  have hts := C.2.2.2.2.2.1
  refine W.objInit (a := B + o) (rest := st.map (zv B)) C.1 C.2.1 C.2.2.2.2.1 (hts _ hw) (hts (.instanceMethod Lib.objectInit) (by decide +kernel)) (hts (.code Lib.objectInit ⟨#[0xb1]⟩ 1 none) (by decide +kernel)) rfl (hl.1.trans C.2.2.2.1.symm) rfl hd (Nat.le_trans hr.1 C.2.2.2.2.2.2.2.2.1) ?_ (k p l e Rm s m args below meth c H locs cells slots D cy B ls C V hc hs hl)
  have := C.2.2.2.2.2.2.2.2.2.1
  have h2 := hr.2
  show 2 * 0 + ((st.map (zv B)).map fun v => v.category).sum + 12 ≤ Rm.locals
  rw [zst_sum]
  omega
end
section
theorem zlv_pick_map (B : Nat) (lv : List (Nat × Value)) (ks : List Nat) : lv_pick (lv.map (fun q => (q.1, zv B q.2))) ks = (lv_pick lv ks).map (fun q => (q.1, zv B q.2)) := by
  simp [lv_pick, List.map_filterMap, List.getElem?_map]
theorem zRT_sub {μ : zMI} {kc ks pc : Nat} {lv lv2 : List (Nat × Value)} {st : List Value} {sh : List zShp} {M : zMem} {R : zEnd} (ps : List Nat) (hk : lv_pick lv ps = lv2) (h : zRT μ kc ks pc lv2 st sh M R) : zRT μ kc ks pc lv st sh M R := by
  intro p l e Rm s m args below meth c H locs cells slots D cy B ls C V hc hs hl
  exact h p l e Rm s m args below meth c H locs cells slots D cy B ls C V hc hs (lv_sub hl ps (by rw [zlv_pick_map, hk]))
section zMore
variable {μ : zMI} {kc ks pc : Nat} {lv : List (Nat × Value)} {st : List Value} {sh : List zShp} {M : zMem} {R : zEnd}
theorem zs_istore_n2 {n : Fin 4} (j : Nat) {x : Int32} (ps : List Nat) (lv2 : List (Nat × Value)) (hd : decode μ.2.1 pc = .ok (.istore_n n, 1)) (hn : (n : Nat) = j) (hj : j < μ.2.2.1) (hlv : lv_pick (zsto lv j (.int x)) ps = lv2) (k : zRT μ kc ks (pc + 1) lv2 st sh M R) : zRT μ kc ks pc lv (.int x :: st) sh M R := zs_istore_n j _ hd hn hj rfl (zRT_sub ps hlv k)
theorem zs_istore2 {j : Nat} {x : Int32} (ps : List Nat) (lv2 : List (Nat × Value)) (hd : decode μ.2.1 pc = .ok (.istore j, 2)) (hj : j < μ.2.2.1) (hlv : lv_pick (zsto lv j (.int x)) ps = lv2) (k : zRT μ kc ks (pc + 2) lv2 st sh M R) : zRT μ kc ks pc lv (.int x :: st) sh M R := zs_istore _ hd hj rfl (zRT_sub ps hlv k)
theorem zs_astore_n2 {n : Fin 4} (j : Nat) {x : Nat} (ps : List Nat) (lv2 : List (Nat × Value)) (hd : decode μ.2.1 pc = .ok (.astore_n n, 1)) (hn : (n : Nat) = j) (hj : j < μ.2.2.1) (hlv : lv_pick (zsto lv j (.ref x)) ps = lv2) (k : zRT μ kc ks (pc + 1) lv2 st sh M R) : zRT μ kc ks pc lv (.ref x :: st) sh M R := zs_astore_n j _ hd hn hj rfl (zRT_sub ps hlv k)
theorem zs_astore_nN2 {n : Fin 4} (j : Nat) (ps : List Nat) (lv2 : List (Nat × Value)) (hd : decode μ.2.1 pc = .ok (.astore_n n, 1)) (hn : (n : Nat) = j) (hj : j < μ.2.2.1) (hlv : lv_pick (zsto lv j .null) ps = lv2) (k : zRT μ kc ks (pc + 1) lv2 st sh M R) : zRT μ kc ks pc lv (.null :: st) sh M R := zs_astore_nN j _ hd hn hj rfl (zRT_sub ps hlv k)
theorem zs_iinc2 {j : Nat} {n : Int} {x : Int32} (i : Nat) (v : Int32) (ps : List Nat) (lv2 : List (Nat × Value)) (hd : decode μ.2.1 pc = .ok (.iinc j n, 3)) (hi : lv[i]? = some (j, .int x)) (hv : x + Int32.ofInt n = v) (hj : j < μ.2.2.1) (hlv : lv_pick (zsto lv j (.int v)) ps = lv2) (k : zRT μ kc ks (pc + 3) lv2 st sh M R) : zRT μ kc ks pc lv st sh M R := zs_iinc i v _ hd hi hv hj rfl (zRT_sub ps hlv k)
end zMore
theorem zI_ne {x y : Int32} {z : Int} (h : ¬ x = y) (hz : y.toInt = z) : ¬ x.toInt = z := fun q => h (Int32.toInt_inj.mp (q.trans hz.symm))
theorem zsw_lk2 {a0 o0 a1 o1 df k : Int} (h0 : ¬ k = a0) (h1 : ¬ k = a1) : Op.lookupswitch.offset [(a0, o0), (a1, o1)] df k = df := by
  rw [Op.lookupswitch.offset_cons, if_neg (fun q => h0 q.symm), Op.lookupswitch.offset_cons, if_neg (fun q => h1 q.symm)]
  rfl
theorem zsw_lk3 {a0 o0 a1 o1 a2 o2 df k : Int} (h0 : ¬ k = a0) (h1 : ¬ k = a1) (h2 : ¬ k = a2) : Op.lookupswitch.offset [(a0, o0), (a1, o1), (a2, o2)] df k = df := by
  rw [Op.lookupswitch.offset_cons, if_neg (fun q => h0 q.symm), Op.lookupswitch.offset_cons, if_neg (fun q => h1 q.symm), Op.lookupswitch.offset_cons, if_neg (fun q => h2 q.symm)]
  rfl
end
section
theorem zg_1 {w : Cond} (h : w ∈ tables_1_1) (hg : goodWord w = true) : w ∈ zgt := List.mem_filter.mpr ⟨List.mem_append_right _ (List.mem_append_left _ h), hg⟩
theorem zg_2 {w : Cond} (h : w ∈ tables_1_2) (hg : goodWord w = true) : w ∈ zgt := List.mem_filter.mpr ⟨List.mem_append_right _ (List.mem_append_right _ (List.mem_append_left _ h)), hg⟩
theorem zg_3 {w : Cond} (h : w ∈ tables_1_3) (hg : goodWord w = true) : w ∈ zgt := List.mem_filter.mpr ⟨List.mem_append_right _ (List.mem_append_right _ (List.mem_append_right _ (List.mem_append_left _ h))), hg⟩
theorem zg_4 {w : Cond} (h : w ∈ tables_1_4) (hg : goodWord w = true) : w ∈ zgt := List.mem_filter.mpr ⟨List.mem_append_right _ (List.mem_append_right _ (List.mem_append_right _ (List.mem_append_right _ (h)))), hg⟩
theorem zgn_1 {w : Cond} (h : w ∈ tables_1_1) (hg : zisN w = true) : w ∈ zns := List.mem_filter.mpr ⟨List.mem_append_right _ (List.mem_append_left _ h), hg⟩
theorem zgn_2 {w : Cond} (h : w ∈ tables_1_2) (hg : zisN w = true) : w ∈ zns := List.mem_filter.mpr ⟨List.mem_append_right _ (List.mem_append_right _ (List.mem_append_left _ h)), hg⟩
theorem zgn_3 {w : Cond} (h : w ∈ tables_1_3) (hg : zisN w = true) : w ∈ zns := List.mem_filter.mpr ⟨List.mem_append_right _ (List.mem_append_right _ (List.mem_append_right _ (List.mem_append_left _ h))), hg⟩
theorem zgn_4 {w : Cond} (h : w ∈ tables_1_4) (hg : zisN w = true) : w ∈ zns := List.mem_filter.mpr ⟨List.mem_append_right _ (List.mem_append_right _ (List.mem_append_right _ (List.mem_append_right _ (h)))), hg⟩
theorem zg_s {w : Cond} (h : w ∈ k2_sels lw_privs) (hg : goodWord w = true) : w ∈ zgt := List.mem_filter.mpr ⟨List.mem_append_left _ h, hg⟩
def m_Bakers_barredForEach : zMI := (⟨"OthersHands$Bakers", "barredForEach", "(LOthersHands$Town;I)I"⟩, prog_2_method_4_code, 4, some .int, 1, 22)
theorem cd_Bakers_barredForEach : zCd m_Bakers_barredForEach := ⟨(zg_3 (List.mem_of_getElem? (i := 81) rfl) rfl), (zg_1 (List.mem_of_getElem? (i := 14) rfl) rfl), by decide +kernel, by decide +kernel⟩
def m_Bakers_feedAll : zMI := (⟨"OthersHands$Bakers", "feedAll", "(LOthersHands$Town;II)Z"⟩, prog_2_method_3_code, 5, some .boolean, 2, 45)
theorem cd_Bakers_feedAll : zCd m_Bakers_feedAll := ⟨(zg_3 (List.mem_of_getElem? (i := 78) rfl) rfl), (zg_1 (List.mem_of_getElem? (i := 14) rfl) rfl), by decide +kernel, by decide +kernel⟩
def m_Bakers_fewest : zMI := (⟨"OthersHands$Bakers", "fewest", "(LOthersHands$Town;I)I"⟩, prog_2_method_2_code, 5, some .int, 3, 69)
theorem cd_Bakers_fewest : zCd m_Bakers_fewest := ⟨(zg_3 (List.mem_of_getElem? (i := 74) rfl) rfl), (zg_1 (List.mem_of_getElem? (i := 14) rfl) rfl), by decide +kernel, by decide +kernel⟩
def m_Bread_eats : zMI := (⟨"OthersHands$Bread", "eats", "(I)Z"⟩, prog_3_method_9_code, 3, some .boolean, 1, 21)
theorem cd_Bread_eats : zCd m_Bread_eats := ⟨(zg_3 (List.mem_of_getElem? (i := 136) rfl) rfl), (zg_1 (List.mem_of_getElem? (i := 8) rfl) rfl), by decide +kernel, by decide +kernel⟩
def m_Bread_init : zMI := (⟨"OthersHands$Bread", "<init>", "()V"⟩, prog_3_method_1_code, 1, none, 1, 20)
theorem cd_Bread_init : zCd m_Bread_init := ⟨(zg_1 (List.mem_of_getElem? (i := 184) rfl) rfl), (zg_1 (List.mem_of_getElem? (i := 8) rfl) rfl), by decide +kernel, by decide +kernel⟩
def m_Bread_layOut : zMI := (⟨"OthersHands$Bread", "layOut", "(LOthersHands$Town;)V"⟩, prog_3_method_2_code, 3, none, 5, 113)
theorem cd_Bread_layOut : zCd m_Bread_layOut := ⟨(zg_3 (List.mem_of_getElem? (i := 36) rfl) rfl), (zg_1 (List.mem_of_getElem? (i := 8) rfl) rfl), by decide +kernel, by decide +kernel⟩
def m_Bread_leastShortSet : zMI := (⟨"OthersHands$Bread", "leastShortSet", "()I"⟩, prog_3_method_5_code, 2, some .int, 2, 45)
theorem cd_Bread_leastShortSet : zCd m_Bread_leastShortSet := ⟨(zg_3 (List.mem_of_getElem? (i := 67) rfl) rfl), (zg_1 (List.mem_of_getElem? (i := 8) rfl) rfl), by decide +kernel, by decide +kernel⟩
def m_Bread_live : zMI := (⟨"OthersHands$Bread", "live", "(II)I"⟩, prog_3_method_8_code, 6, some .int, 2, 43)
theorem cd_Bread_live : zCd m_Bread_live := ⟨(zg_3 (List.mem_of_getElem? (i := 131) rfl) rfl), (zg_1 (List.mem_of_getElem? (i := 8) rfl) rfl), by decide +kernel, by decide +kernel⟩
def m_Bread_loavesFor : zMI := (⟨"OthersHands$Bread", "loavesFor", "(I)I"⟩, prog_3_method_3_code, 5, some .int, 1, 21)
theorem cd_Bread_loavesFor : zCd m_Bread_loavesFor := ⟨(zg_3 (List.mem_of_getElem? (i := 51) rfl) rfl), (zg_1 (List.mem_of_getElem? (i := 8) rfl) rfl), by decide +kernel, by decide +kernel⟩
def m_Bread_mostFed : zMI := (⟨"OthersHands$Bread", "mostFed", "(I)I"⟩, prog_3_method_4_code, 4, some .int, 2, 45)
theorem cd_Bread_mostFed : zCd m_Bread_mostFed := ⟨(zg_3 (List.mem_of_getElem? (i := 46) rfl) rfl), (zg_1 (List.mem_of_getElem? (i := 8) rfl) rfl), by decide +kernel, by decide +kernel⟩
def m_Bread_serve : zMI := (⟨"OthersHands$Bread", "serve", "()I"⟩, prog_3_method_6_code, 4, some .int, 4, 92)
theorem cd_Bread_serve : zCd m_Bread_serve := ⟨(zg_3 (List.mem_of_getElem? (i := 42) rfl) rfl), (zg_1 (List.mem_of_getElem? (i := 8) rfl) rfl), by decide +kernel, by decide +kernel⟩
def m_Bread_takeLeastMeal : zMI := (⟨"OthersHands$Bread", "takeLeastMeal", "(II)I"⟩, prog_3_method_7_code, 5, some .int, 3, 68)
theorem cd_Bread_takeLeastMeal : zCd m_Bread_takeLeastMeal := ⟨(zg_3 (List.mem_of_getElem? (i := 59) rfl) rfl), (zg_1 (List.mem_of_getElem? (i := 8) rfl) rfl), by decide +kernel, by decide +kernel⟩
def m_Filling_applySight : zMI := (⟨"OthersHands$Filling", "applySight", "(IILOthersHands$Pages;)V"⟩, prog_4_method_4_code, 5, none, 2, 44)
theorem cd_Filling_applySight : zCd m_Filling_applySight := ⟨(zg_2 (List.mem_of_getElem? (i := 235) rfl) rfl), (zg_1 (List.mem_of_getElem? (i := 7) rfl) rfl), by decide +kernel, by decide +kernel⟩
def m_Filling_barredInAll : zMI := (⟨"OthersHands$Filling", "barredInAll", "(LOthersHands$Town;I)I"⟩, prog_4_method_7_code, 8, some .int, 3, 69)
theorem cd_Filling_barredInAll : zCd m_Filling_barredInAll := ⟨(zg_3 (List.mem_of_getElem? (i := 19) rfl) rfl), (zg_1 (List.mem_of_getElem? (i := 7) rfl) rfl), by decide +kernel, by decide +kernel⟩
def m_Filling_barredInSome : zMI := (⟨"OthersHands$Filling", "barredInSome", "(LOthersHands$Town;I)I"⟩, prog_4_method_9_code, 6, some .int, 3, 69)
theorem cd_Filling_barredInSome : zCd m_Filling_barredInSome := ⟨(zg_3 (List.mem_of_getElem? (i := 27) rfl) rfl), (zg_1 (List.mem_of_getElem? (i := 7) rfl) rfl), by decide +kernel, by decide +kernel⟩
def m_Filling_findAsks : zMI := (⟨"OthersHands$Filling", "findAsks", "(LOthersHands$Pages;)V"⟩, prog_4_method_3_code, 3, none, 0, 0)
theorem cd_Filling_findAsks : zCd m_Filling_findAsks := ⟨(zg_2 (List.mem_of_getElem? (i := 229) rfl) rfl), (zg_1 (List.mem_of_getElem? (i := 7) rfl) rfl), by decide +kernel, by decide +kernel⟩
def m_Filling_firstMan : zMI := (⟨"OthersHands$Filling", "firstMan", "(I)I"⟩, prog_4_method_6_code, 2, some .int, 2, 42)
theorem cd_Filling_firstMan : zCd m_Filling_firstMan := ⟨(zg_3 (List.mem_of_getElem? (i := 6) rfl) rfl), (zg_1 (List.mem_of_getElem? (i := 7) rfl) rfl), by decide +kernel, by decide +kernel⟩
def m_Filling_init : zMI := (⟨"OthersHands$Filling", "<init>", "()V"⟩, prog_4_method_1_code, 1, none, 1, 20)
theorem cd_Filling_init : zCd m_Filling_init := ⟨(zg_1 (List.mem_of_getElem? (i := 165) rfl) rfl), (zg_1 (List.mem_of_getElem? (i := 7) rfl) rfl), by decide +kernel, by decide +kernel⟩
def m_Filling_isForced : zMI := (⟨"OthersHands$Filling", "isForced", "(II)Z"⟩, prog_4_method_8_code, 4, some .boolean, 1, 21)
theorem cd_Filling_isForced : zCd m_Filling_isForced := ⟨(zg_3 (List.mem_of_getElem? (i := 23) rfl) rfl), (zg_1 (List.mem_of_getElem? (i := 7) rfl) rfl), by decide +kernel, by decide +kernel⟩
def m_Filling_ways : zMI := (⟨"OthersHands$Filling", "ways", "()I"⟩, prog_4_method_5_code, 3, some .int, 1, 20)
theorem cd_Filling_ways : zCd m_Filling_ways := ⟨(zg_3 (List.mem_of_getElem? (i := 1) rfl) rfl), (zg_1 (List.mem_of_getElem? (i := 7) rfl) rfl), by decide +kernel, by decide +kernel⟩
def m_Filling_weigh : zMI := (⟨"OthersHands$Filling", "weigh", "(LOthersHands$Town;)V"⟩, prog_4_method_2_code, 3, none, 3, 69)
theorem cd_Filling_weigh : zCd m_Filling_weigh := ⟨(zg_2 (List.mem_of_getElem? (i := 225) rfl) rfl), (zg_1 (List.mem_of_getElem? (i := 7) rfl) rfl), by decide +kernel, by decide +kernel⟩
def m_JI_bitCount : zMI := (⟨"java/lang/Integer", "bitCount", "(I)I"⟩, prog_13_method_49_code, 1, some .int, 0, 0)
theorem cd_JI_bitCount : zCd m_JI_bitCount := ⟨(zg_2 (List.mem_of_getElem? (i := 50) rfl) rfl), (zg_1 (List.mem_of_getElem? (i := 11) rfl) rfl), by decide +kernel, by decide +kernel⟩
def m_JM_max : zMI := (⟨"java/lang/Math", "max", "(II)I"⟩, prog_14_method_65_code, 2, some .int, 0, 0)
theorem cd_JM_max : zCd m_JM_max := ⟨(zg_3 (List.mem_of_getElem? (i := 55) rfl) rfl), (zg_1 (List.mem_of_getElem? (i := 13) rfl) rfl), by decide +kernel, by decide +kernel⟩
def m_Matchmaker_arrange : zMI := (⟨"OthersHands$Matchmaker", "arrange", "(LOthersHands$Town;)I"⟩, prog_5_method_2_code, 4, some .int, 5, 113)
theorem cd_Matchmaker_arrange : zCd m_Matchmaker_arrange := ⟨(zg_3 (List.mem_of_getElem? (i := 98) rfl) rfl), (zg_1 (List.mem_of_getElem? (i := 9) rfl) rfl), by decide +kernel, by decide +kernel⟩
def m_Matchmaker_bestOther : zMI := (⟨"OthersHands$Matchmaker", "bestOther", "(II)I"⟩, prog_5_method_6_code, 5, some .int, 2, 44)
theorem cd_Matchmaker_bestOther : zCd m_Matchmaker_bestOther := ⟨(zg_3 (List.mem_of_getElem? (i := 114) rfl) rfl), (zg_1 (List.mem_of_getElem? (i := 9) rfl) rfl), by decide +kernel, by decide +kernel⟩
def m_Matchmaker_choose : zMI := (⟨"OthersHands$Matchmaker", "choose", "(I)V"⟩, prog_5_method_7_code, 5, none, 3, 68)
theorem cd_Matchmaker_choose : zCd m_Matchmaker_choose := ⟨(zg_3 (List.mem_of_getElem? (i := 123) rfl) rfl), (zg_1 (List.mem_of_getElem? (i := 9) rfl) rfl), by decide +kernel, by decide +kernel⟩
def m_Matchmaker_init : zMI := (⟨"OthersHands$Matchmaker", "<init>", "()V"⟩, prog_5_method_1_code, 1, none, 1, 20)
theorem cd_Matchmaker_init : zCd m_Matchmaker_init := ⟨(zg_1 (List.mem_of_getElem? (i := 202) rfl) rfl), (zg_1 (List.mem_of_getElem? (i := 9) rfl) rfl), by decide +kernel, by decide +kernel⟩
def m_Matchmaker_leastSum : zMI := (⟨"OthersHands$Matchmaker", "leastSum", "(I)I"⟩, prog_5_method_4_code, 4, some .int, 3, 68)
theorem cd_Matchmaker_leastSum : zCd m_Matchmaker_leastSum := ⟨(zg_3 (List.mem_of_getElem? (i := 108) rfl) rfl), (zg_1 (List.mem_of_getElem? (i := 9) rfl) rfl), by decide +kernel, by decide +kernel⟩
def m_Matchmaker_sumUp : zMI := (⟨"OthersHands$Matchmaker", "sumUp", "(I)V"⟩, prog_5_method_3_code, 3, none, 4, 91)
theorem cd_Matchmaker_sumUp : zCd m_Matchmaker_sumUp := ⟨(zg_3 (List.mem_of_getElem? (i := 103) rfl) rfl), (zg_1 (List.mem_of_getElem? (i := 9) rfl) rfl), by decide +kernel, by decide +kernel⟩
def m_Matchmaker_sumWith : zMI := (⟨"OthersHands$Matchmaker", "sumWith", "(III)I"⟩, prog_5_method_5_code, 5, some .int, 1, 20)
theorem cd_Matchmaker_sumWith : zCd m_Matchmaker_sumWith := ⟨(zg_3 (List.mem_of_getElem? (i := 119) rfl) rfl), (zg_1 (List.mem_of_getElem? (i := 9) rfl) rfl), by decide +kernel, by decide +kernel⟩
def m_O_book : zMI := (⟨"OthersHands", "book", "()I"⟩, prog_1_method_5_code, 1, some .int, 5, 108)
theorem cd_O_book : zCd m_O_book := ⟨(zg_2 (List.mem_of_getElem? (i := 69) rfl) rfl), (zg_1 (List.mem_of_getElem? (i := 1) rfl) rfl), by decide +kernel, by decide +kernel⟩
def m_O_days : zMI := (⟨"OthersHands", "days", "(III)I"⟩, prog_1_method_24_code, 5, some .int, 6, 135)
theorem cd_O_days : zCd m_O_days := ⟨(zg_3 (List.mem_of_getElem? (i := 127) rfl) rfl), (zg_1 (List.mem_of_getElem? (i := 1) rfl) rfl), by decide +kernel, by decide +kernel⟩
def m_O_fault : zMI := (⟨"OthersHands", "fault", "()I"⟩, prog_1_method_4_code, 1, some .int, 5, 108)
theorem cd_O_fault : zCd m_O_fault := ⟨(zg_2 (List.mem_of_getElem? (i := 19) rfl) rfl), (zg_1 (List.mem_of_getElem? (i := 1) rfl) rfl), by decide +kernel, by decide +kernel⟩
def m_O_fed : zMI := (⟨"OthersHands", "fed", "(I)I"⟩, prog_1_method_19_code, 3, some .int, 6, 135)
theorem cd_O_fed : zCd m_O_fed := ⟨(zg_3 (List.mem_of_getElem? (i := 32) rfl) rfl), (zg_1 (List.mem_of_getElem? (i := 1) rfl) rfl), by decide +kernel, by decide +kernel⟩
def m_O_filled : zMI := (⟨"OthersHands", "filled", "(I)I"⟩, prog_1_method_17_code, 2, some .int, 4, 91)
theorem cd_O_filled : zCd m_O_filled := ⟨(zg_2 (List.mem_of_getElem? (i := 221) rfl) rfl), (zg_1 (List.mem_of_getElem? (i := 1) rfl) rfl), by decide +kernel, by decide +kernel⟩
def m_O_forget : zMI := (⟨"OthersHands", "forget", "()I"⟩, prog_1_method_16_code, 1, some .int, 1, 21)
theorem cd_O_forget : zCd m_O_forget := ⟨(zg_2 (List.mem_of_getElem? (i := 213) rfl) rfl), (zg_1 (List.mem_of_getElem? (i := 1) rfl) rfl), by decide +kernel, by decide +kernel⟩
def m_O_has : zMI := (⟨"OthersHands", "has", "(II)Z"⟩, prog_1_method_30_code, 2, some .boolean, 0, 0)
theorem cd_O_has : zCd m_O_has := ⟨(zg_2 (List.mem_of_getElem? (i := 133) rfl) rfl), (zg_1 (List.mem_of_getElem? (i := 1) rfl) rfl), by decide +kernel, by decide +kernel⟩
def m_O_image : zMI := (⟨"OthersHands", "image", "(I)I"⟩, prog_1_method_25_code, 3, some .int, 3, 82)
theorem cd_O_image : zCd m_O_image := ⟨(zg_3 (List.mem_of_getElem? (i := 140) rfl) rfl), (zg_1 (List.mem_of_getElem? (i := 1) rfl) rfl), by decide +kernel, by decide +kernel⟩
def m_O_init : zMI := (⟨"OthersHands", "<init>", "()V"⟩, prog_1_method_1_code, 1, none, 3, 61)
theorem cd_O_init : zCd m_O_init := ⟨(zg_1 (List.mem_of_getElem? (i := 19) rfl) rfl), (zg_1 (List.mem_of_getElem? (i := 1) rfl) rfl), by decide +kernel, by decide +kernel⟩
def m_O_isMan : zMI := (⟨"OthersHands", "isMan", "(I)Z"⟩, prog_1_method_28_code, 1, some .boolean, 0, 0)
theorem cd_O_isMan : zCd m_O_isMan := ⟨(zg_2 (List.mem_of_getElem? (i := 95) rfl) rfl), (zg_1 (List.mem_of_getElem? (i := 1) rfl) rfl), by decide +kernel, by decide +kernel⟩
def m_O_isThing : zMI := (⟨"OthersHands", "isThing", "(I)Z"⟩, prog_1_method_29_code, 2, some .boolean, 0, 0)
theorem cd_O_isThing : zCd m_O_isThing := ⟨(zg_2 (List.mem_of_getElem? (i := 88) rfl) rfl), (zg_1 (List.mem_of_getElem? (i := 1) rfl) rfl), by decide +kernel, by decide +kernel⟩
def m_O_join : zMI := (⟨"OthersHands", "join", "(II)I"⟩, prog_1_method_7_code, 3, some .int, 1, 20)
theorem cd_O_join : zCd m_O_join := ⟨(zg_2 (List.mem_of_getElem? (i := 92) rfl) rfl), (zg_1 (List.mem_of_getElem? (i := 1) rfl) rfl), by decide +kernel, by decide +kernel⟩
def m_O_lack : zMI := (⟨"OthersHands", "lack", "()I"⟩, prog_1_method_20_code, 1, some .int, 6, 135)
theorem cd_O_lack : zCd m_O_lack := ⟨(zg_3 (List.mem_of_getElem? (i := 63) rfl) rfl), (zg_1 (List.mem_of_getElem? (i := 1) rfl) rfl), by decide +kernel, by decide +kernel⟩
def m_O_leastOf : zMI := (⟨"OthersHands", "leastOf", "(I)I"⟩, prog_1_method_31_code, 2, some .int, 1, 21)
theorem cd_O_leastOf : zCd m_O_leastOf := ⟨(zg_3 (List.mem_of_getElem? (i := 10) rfl) rfl), (zg_1 (List.mem_of_getElem? (i := 1) rfl) rfl), by decide +kernel, by decide +kernel⟩
def m_O_loaves : zMI := (⟨"OthersHands", "loaves", "(II)I"⟩, prog_1_method_10_code, 4, some .int, 1, 21)
theorem cd_O_loaves : zCd m_O_loaves := ⟨(zg_2 (List.mem_of_getElem? (i := 114) rfl) rfl), (zg_1 (List.mem_of_getElem? (i := 1) rfl) rfl), by decide +kernel, by decide +kernel⟩
def m_O_makers : zMI := (⟨"OthersHands", "makers", "(II)I"⟩, prog_1_method_21_code, 4, some .int, 4, 93)
theorem cd_O_makers : zCd m_O_makers := ⟨(zg_3 (List.mem_of_getElem? (i := 71) rfl) rfl), (zg_1 (List.mem_of_getElem? (i := 1) rfl) rfl), by decide +kernel, by decide +kernel⟩
def m_O_married : zMI := (⟨"OthersHands", "married", "(I)I"⟩, prog_1_method_23_code, 3, some .int, 6, 136)
theorem cd_O_married : zCd m_O_married := ⟨(zg_3 (List.mem_of_getElem? (i := 94) rfl) rfl), (zg_1 (List.mem_of_getElem? (i := 1) rfl) rfl), by decide +kernel, by decide +kernel⟩
def m_O_may : zMI := (⟨"OthersHands", "may", "(II)I"⟩, prog_1_method_12_code, 3, some .int, 5, 113)
theorem cd_O_may : zCd m_O_may := ⟨(zg_2 (List.mem_of_getElem? (i := 175) rfl) rfl), (zg_1 (List.mem_of_getElem? (i := 1) rfl) rfl), by decide +kernel, by decide +kernel⟩
def m_O_near : zMI := (⟨"OthersHands", "near", "(II)I"⟩, prog_1_method_13_code, 3, some .int, 3, 69)
theorem cd_O_near : zCd m_O_near := ⟨(zg_2 (List.mem_of_getElem? (i := 187) rfl) rfl), (zg_1 (List.mem_of_getElem? (i := 1) rfl) rfl), by decide +kernel, by decide +kernel⟩
def m_O_part : zMI := (⟨"OthersHands", "part", "(I)I"⟩, prog_1_method_8_code, 3, some .int, 1, 20)
theorem cd_O_part : zCd m_O_part := ⟨(zg_2 (List.mem_of_getElem? (i := 99) rfl) rfl), (zg_1 (List.mem_of_getElem? (i := 1) rfl) rfl), by decide +kernel, by decide +kernel⟩
def m_O_restore : zMI := (⟨"OthersHands", "restore", "(I)I"⟩, prog_1_method_26_code, 3, some .int, 3, 82)
theorem cd_O_restore : zCd m_O_restore := ⟨(zg_3 (List.mem_of_getElem? (i := 149) rfl) rfl), (zg_1 (List.mem_of_getElem? (i := 1) rfl) rfl), by decide +kernel, by decide +kernel⟩
def m_O_say : zMI := (⟨"OthersHands", "say", "(I)I"⟩, prog_1_method_2_code, 2, some .int, 1, 21)
theorem cd_O_say : zCd m_O_say := ⟨(zg_2 (List.mem_of_getElem? (i := 3) rfl) rfl), (zg_1 (List.mem_of_getElem? (i := 1) rfl) rfl), by decide +kernel, by decide +kernel⟩
def m_O_seen : zMI := (⟨"OthersHands", "seen", "(II)I"⟩, prog_1_method_15_code, 3, some .int, 1, 22)
theorem cd_O_seen : zCd m_O_seen := ⟨(zg_2 (List.mem_of_getElem? (i := 205) rfl) rfl), (zg_1 (List.mem_of_getElem? (i := 1) rfl) rfl), by decide +kernel, by decide +kernel⟩
def m_O_set : zMI := (⟨"OthersHands", "set", "(II)I"⟩, prog_1_method_9_code, 3, some .int, 1, 23)
theorem cd_O_set : zCd m_O_set := ⟨(zg_2 (List.mem_of_getElem? (i := 103) rfl) rfl), (zg_1 (List.mem_of_getElem? (i := 1) rfl) rfl), by decide +kernel, by decide +kernel⟩
def m_O_share : zMI := (⟨"OthersHands", "share", "(III)J"⟩, prog_1_method_14_code, 5, some .long, 3, 69)
theorem cd_O_share : zCd m_O_share := ⟨(zg_2 (List.mem_of_getElem? (i := 195) rfl) rfl), (zg_1 (List.mem_of_getElem? (i := 1) rfl) rfl), by decide +kernel, by decide +kernel⟩
def m_O_sure : zMI := (⟨"OthersHands", "sure", "(II)I"⟩, prog_1_method_18_code, 3, some .int, 4, 96)
theorem cd_O_sure : zCd m_O_sure := ⟨(zg_3 (List.mem_of_getElem? (i := 15) rfl) rfl), (zg_1 (List.mem_of_getElem? (i := 1) rfl) rfl), by decide +kernel, by decide +kernel⟩
def m_O_thing : zMI := (⟨"OthersHands", "thing", "(II)I"⟩, prog_1_method_6_code, 3, some .int, 1, 21)
theorem cd_O_thing : zCd m_O_thing := ⟨(zg_2 (List.mem_of_getElem? (i := 84) rfl) rfl), (zg_1 (List.mem_of_getElem? (i := 1) rfl) rfl), by decide +kernel, by decide +kernel⟩
def m_O_told : zMI := (⟨"OthersHands", "told", "(I)I"⟩, prog_1_method_27_code, 2, some .int, 1, 21)
theorem cd_O_told : zCd m_O_told := ⟨(zg_3 (List.mem_of_getElem? (i := 153) rfl) rfl), (zg_1 (List.mem_of_getElem? (i := 1) rfl) rfl), by decide +kernel, by decide +kernel⟩
def m_O_touched : zMI := (⟨"OthersHands", "touched", "(II)I"⟩, prog_1_method_11_code, 3, some .int, 5, 111)
theorem cd_O_touched : zCd m_O_touched := ⟨(zg_2 (List.mem_of_getElem? (i := 118) rfl) rfl), (zg_1 (List.mem_of_getElem? (i := 1) rfl) rfl), by decide +kernel, by decide +kernel⟩
def m_O_washed : zMI := (⟨"OthersHands", "washed", "(II)I"⟩, prog_1_method_22_code, 4, some .int, 3, 69)
theorem cd_O_washed : zCd m_O_washed := ⟨(zg_3 (List.mem_of_getElem? (i := 88) rfl) rfl), (zg_1 (List.mem_of_getElem? (i := 1) rfl) rfl), by decide +kernel, by decide +kernel⟩
def m_O_wipe : zMI := (⟨"OthersHands", "wipe", "()I"⟩, prog_1_method_3_code, 1, some .int, 1, 21)
theorem cd_O_wipe : zCd m_O_wipe := ⟨(zg_2 (List.mem_of_getElem? (i := 11) rfl) rfl), (zg_1 (List.mem_of_getElem? (i := 1) rfl) rfl), by decide +kernel, by decide +kernel⟩
def m_Pad_clear : zMI := (⟨"OthersHands$Pad", "clear", "()I"⟩, prog_6_method_3_code, 2, some .int, 0, 0)
theorem cd_Pad_clear : zCd m_Pad_clear := ⟨(zg_2 (List.mem_of_getElem? (i := 15) rfl) rfl), (zg_1 (List.mem_of_getElem? (i := 2) rfl) rfl), by decide +kernel, by decide +kernel⟩
def m_Pad_init : zMI := (⟨"OthersHands$Pad", "<init>", "()V"⟩, prog_6_method_1_code, 1, none, 1, 20)
theorem cd_Pad_init : zCd m_Pad_init := ⟨(zg_1 (List.mem_of_getElem? (i := 27) rfl) rfl), (zg_1 (List.mem_of_getElem? (i := 2) rfl) rfl), by decide +kernel, by decide +kernel⟩
def m_Pad_put : zMI := (⟨"OthersHands$Pad", "put", "(I)I"⟩, prog_6_method_2_code, 2, some .int, 0, 0)
theorem cd_Pad_put : zCd m_Pad_put := ⟨(zg_2 (List.mem_of_getElem? (i := 7) rfl) rfl), (zg_1 (List.mem_of_getElem? (i := 2) rfl) rfl), by decide +kernel, by decide +kernel⟩
def m_Pages_become : zMI := (⟨"OthersHands$Pages", "become", "(LOthersHands$Pages;)V"⟩, prog_7_method_2_code, 2, none, 1, 40)
theorem cd_Pages_become : zCd m_Pages_become := ⟨(zg_2 (List.mem_of_getElem? (i := 77) rfl) rfl), (zg_1 (List.mem_of_getElem? (i := 4) rfl) rfl), by decide +kernel, by decide +kernel⟩
def m_Pages_behind : zMI := (⟨"OthersHands$Pages", "behind", "(IZ)I"⟩, prog_7_method_5_code, 5, some .int, 1, 21)
theorem cd_Pages_behind : zCd m_Pages_behind := ⟨(zg_2 (List.mem_of_getElem? (i := 130) rfl) rfl), (zg_1 (List.mem_of_getElem? (i := 4) rfl) rfl), by decide +kernel, by decide +kernel⟩
def m_Pages_bitOf : zMI := (⟨"OthersHands$Pages", "bitOf", "(I)I"⟩, prog_7_method_6_code, 1, some .int, 0, 0)
theorem cd_Pages_bitOf : zCd m_Pages_bitOf := ⟨(zg_2 (List.mem_of_getElem? (i := 136) rfl) rfl), (zg_1 (List.mem_of_getElem? (i := 4) rfl) rfl), by decide +kernel, by decide +kernel⟩
def m_Pages_clearMaking : zMI := (⟨"OthersHands$Pages", "clearMaking", "(I)V"⟩, prog_7_method_3_code, 2, none, 0, 0)
theorem cd_Pages_clearMaking : zCd m_Pages_clearMaking := ⟨(zg_2 (List.mem_of_getElem? (i := 27) rfl) rfl), (zg_1 (List.mem_of_getElem? (i := 4) rfl) rfl), by decide +kernel, by decide +kernel⟩
def m_Pages_handsOf : zMI := (⟨"OthersHands$Pages", "handsOf", "(I)I"⟩, prog_7_method_4_code, 4, some .int, 1, 21)
theorem cd_Pages_handsOf : zCd m_Pages_handsOf := ⟨(zg_2 (List.mem_of_getElem? (i := 140) rfl) rfl), (zg_1 (List.mem_of_getElem? (i := 4) rfl) rfl), by decide +kernel, by decide +kernel⟩
def m_Pages_init : zMI := (⟨"OthersHands$Pages", "<init>", "()V"⟩, prog_7_method_1_code, 1, none, 1, 20)
theorem cd_Pages_init : zCd m_Pages_init := ⟨(zg_1 (List.mem_of_getElem? (i := 50) rfl) rfl), (zg_1 (List.mem_of_getElem? (i := 4) rfl) rfl), by decide +kernel, by decide +kernel⟩
def m_Reader_hasRoomForHand : zMI := (⟨"OthersHands$Reader", "hasRoomForHand", "(I)Z"⟩, prog_8_method_7_code, 2, some .boolean, 1, 20)
theorem cd_Reader_hasRoomForHand : zCd m_Reader_hasRoomForHand := ⟨(zg_2 (List.mem_of_getElem? (i := 47) rfl) rfl), (zg_1 (List.mem_of_getElem? (i := 3) rfl) rfl), by decide +kernel, by decide +kernel⟩
def m_Reader_init : zMI := (⟨"OthersHands$Reader", "<init>", "()V"⟩, prog_8_method_1_code, 1, none, 2, 40)
theorem cd_Reader_init : zCd m_Reader_init := ⟨(zg_1 (List.mem_of_getElem? (i := 44) rfl) rfl), (zg_1 (List.mem_of_getElem? (i := 3) rfl) rfl), by decide +kernel, by decide +kernel⟩
def m_Reader_read : zMI := (⟨"OthersHands$Reader", "read", "(LOthersHands$Pad;)I"⟩, prog_8_method_2_code, 3, some .int, 4, 86)
theorem cd_Reader_read : zCd m_Reader_read := ⟨(zg_2 (List.mem_of_getElem? (i := 23) rfl) rfl), (zg_1 (List.mem_of_getElem? (i := 3) rfl) rfl), by decide +kernel, by decide +kernel⟩
def m_Reader_takes : zMI := (⟨"OthersHands$Reader", "takes", "(I)Z"⟩, prog_8_method_3_code, 3, some .boolean, 3, 64)
theorem cd_Reader_takes : zCd m_Reader_takes := ⟨(zg_2 (List.mem_of_getElem? (i := 31) rfl) rfl), (zg_1 (List.mem_of_getElem? (i := 3) rfl) rfl), by decide +kernel, by decide +kernel⟩
def m_Reader_takesAsk : zMI := (⟨"OthersHands$Reader", "takesAsk", "(I)Z"⟩, prog_8_method_9_code, 2, some .boolean, 2, 41)
theorem cd_Reader_takesAsk : zCd m_Reader_takesAsk := ⟨(zg_2 (List.mem_of_getElem? (i := 61) rfl) rfl), (zg_1 (List.mem_of_getElem? (i := 3) rfl) rfl), by decide +kernel, by decide +kernel⟩
def m_Reader_takesEnd : zMI := (⟨"OthersHands$Reader", "takesEnd", "(I)Z"⟩, prog_8_method_10_code, 2, some .boolean, 1, 21)
theorem cd_Reader_takesEnd : zCd m_Reader_takesEnd := ⟨(zg_2 (List.mem_of_getElem? (i := 65) rfl) rfl), (zg_1 (List.mem_of_getElem? (i := 3) rfl) rfl), by decide +kernel, by decide +kernel⟩
def m_Reader_takesFrom : zMI := (⟨"OthersHands$Reader", "takesFrom", "(II)Z"⟩, prog_8_method_4_code, 3, some .boolean, 0, 0)
theorem cd_Reader_takesFrom : zCd m_Reader_takesFrom := ⟨(zg_2 (List.mem_of_getElem? (i := 39) rfl) rfl), (zg_1 (List.mem_of_getElem? (i := 3) rfl) rfl), by decide +kernel, by decide +kernel⟩
def m_Reader_takesMan : zMI := (⟨"OthersHands$Reader", "takesMan", "(II)Z"⟩, prog_8_method_8_code, 4, some .boolean, 2, 41)
theorem cd_Reader_takesMan : zCd m_Reader_takesMan := ⟨(zg_2 (List.mem_of_getElem? (i := 43) rfl) rfl), (zg_1 (List.mem_of_getElem? (i := 3) rfl) rfl), by decide +kernel, by decide +kernel⟩
def m_Reader_takesPlus : zMI := (⟨"OthersHands$Reader", "takesPlus", "(I)Z"⟩, prog_8_method_5_code, 2, some .boolean, 0, 0)
theorem cd_Reader_takesPlus : zCd m_Reader_takesPlus := ⟨(zg_2 (List.mem_of_getElem? (i := 57) rfl) rfl), (zg_1 (List.mem_of_getElem? (i := 3) rfl) rfl), by decide +kernel, by decide +kernel⟩
def m_Reader_takesTool : zMI := (⟨"OthersHands$Reader", "takesTool", "(II)Z"⟩, prog_8_method_6_code, 3, some .boolean, 0, 0)
theorem cd_Reader_takesTool : zCd m_Reader_takesTool := ⟨(zg_2 (List.mem_of_getElem? (i := 35) rfl) rfl), (zg_1 (List.mem_of_getElem? (i := 3) rfl) rfl), by decide +kernel, by decide +kernel⟩
def m_Shares_holders : zMI := (⟨"OthersHands$Shares", "holders", "(LOthersHands$Pages;II)I"⟩, prog_9_method_5_code, 7, some .int, 3, 69)
theorem cd_Shares_holders : zCd m_Shares_holders := ⟨(zg_2 (List.mem_of_getElem? (i := 158) rfl) rfl), (zg_1 (List.mem_of_getElem? (i := 6) rfl) rfl), by decide +kernel, by decide +kernel⟩
def m_Shares_init : zMI := (⟨"OthersHands$Shares", "<init>", "()V"⟩, prog_9_method_1_code, 1, none, 1, 20)
theorem cd_Shares_init : zCd m_Shares_init := ⟨(zg_1 (List.mem_of_getElem? (i := 155) rfl) rfl), (zg_1 (List.mem_of_getElem? (i := 6) rfl) rfl), by decide +kernel, by decide +kernel⟩
def m_Shares_isAhead : zMI := (⟨"OthersHands$Shares", "isAhead", "(II)Z"⟩, prog_9_method_3_code, 2, some .boolean, 0, 0)
theorem cd_Shares_isAhead : zCd m_Shares_isAhead := ⟨(zg_2 (List.mem_of_getElem? (i := 165) rfl) rfl), (zg_1 (List.mem_of_getElem? (i := 6) rfl) rfl), by decide +kernel, by decide +kernel⟩
def m_Shares_lowest : zMI := (⟨"OthersHands$Shares", "lowest", "(III)I"⟩, prog_9_method_6_code, 7, some .int, 0, 0)
theorem cd_Shares_lowest : zCd m_Shares_lowest := ⟨(zg_2 (List.mem_of_getElem? (i := 201) rfl) rfl), (zg_1 (List.mem_of_getElem? (i := 6) rfl) rfl), by decide +kernel, by decide +kernel⟩
def m_Shares_partsOf : zMI := (⟨"OthersHands$Shares", "partsOf", "(LOthersHands$Pages;II)I"⟩, prog_9_method_2_code, 7, some .int, 2, 43)
theorem cd_Shares_partsOf : zCd m_Shares_partsOf := ⟨(zg_2 (List.mem_of_getElem? (i := 162) rfl) rfl), (zg_1 (List.mem_of_getElem? (i := 6) rfl) rfl), by decide +kernel, by decide +kernel⟩
def m_Shares_partsOfHands : zMI := (⟨"OthersHands$Shares", "partsOfHands", "(II)I"⟩, prog_9_method_4_code, 3, some .int, 1, 21)
theorem cd_Shares_partsOfHands : zCd m_Shares_partsOfHands := ⟨(zg_2 (List.mem_of_getElem? (i := 168) rfl) rfl), (zg_1 (List.mem_of_getElem? (i := 6) rfl) rfl), by decide +kernel, by decide +kernel⟩
def m_Town_addSight : zMI := (⟨"OthersHands$Town", "addSight", "(II)I"⟩, prog_10_method_6_code, 3, some .int, 0, 0)
theorem cd_Town_addSight : zCd m_Town_addSight := ⟨(zg_2 (List.mem_of_getElem? (i := 209) rfl) rfl), (zg_1 (List.mem_of_getElem? (i := 5) rfl) rfl), by decide +kernel, by decide +kernel⟩
def m_Town_barredMen : zMI := (⟨"OthersHands$Town", "barredMen", "(I)I"⟩, prog_10_method_12_code, 2, some .int, 4, 90)
theorem cd_Town_barredMen : zCd m_Town_barredMen := ⟨(zg_2 (List.mem_of_getElem? (i := 144) rfl) rfl), (zg_1 (List.mem_of_getElem? (i := 5) rfl) rfl), by decide +kernel, by decide +kernel⟩
def m_Town_become : zMI := (⟨"OthersHands$Town", "become", "(LOthersHands$Town;)V"⟩, prog_10_method_2_code, 2, none, 2, 61)
theorem cd_Town_become : zCd m_Town_become := ⟨(zg_3 (List.mem_of_getElem? (i := 144) rfl) rfl), (zg_1 (List.mem_of_getElem? (i := 5) rfl) rfl), by decide +kernel, by decide +kernel⟩
def m_Town_change : zMI := (⟨"OthersHands$Town", "change", "(II)I"⟩, prog_10_method_5_code, 4, some .int, 0, 0)
theorem cd_Town_change : zCd m_Town_change := ⟨(zg_2 (List.mem_of_getElem? (i := 110) rfl) rfl), (zg_1 (List.mem_of_getElem? (i := 5) rfl) rfl), by decide +kernel, by decide +kernel⟩
def m_Town_couple : zMI := (⟨"OthersHands$Town", "couple", "(I)I"⟩, prog_10_method_8_code, 3, some .int, 0, 0)
theorem cd_Town_couple : zCd m_Town_couple := ⟨(zg_2 (List.mem_of_getElem? (i := 154) rfl) rfl), (zg_1 (List.mem_of_getElem? (i := 5) rfl) rfl), by decide +kernel, by decide +kernel⟩
def m_Town_dropSights : zMI := (⟨"OthersHands$Town", "dropSights", "()I"⟩, prog_10_method_7_code, 2, some .int, 0, 0)
theorem cd_Town_dropSights : zCd m_Town_dropSights := ⟨(zg_2 (List.mem_of_getElem? (i := 217) rfl) rfl), (zg_1 (List.mem_of_getElem? (i := 5) rfl) rfl), by decide +kernel, by decide +kernel⟩
def m_Town_fewestSteps : zMI := (⟨"OthersHands$Town", "fewestSteps", "(II)I"⟩, prog_10_method_15_code, 5, some .int, 2, 45)
theorem cd_Town_fewestSteps : zCd m_Town_fewestSteps := ⟨(zg_2 (List.mem_of_getElem? (i := 191) rfl) rfl), (zg_1 (List.mem_of_getElem? (i := 5) rfl) rfl), by decide +kernel, by decide +kernel⟩
def m_Town_init : zMI := (⟨"OthersHands$Town", "<init>", "()V"⟩, prog_10_method_1_code, 2, none, 2, 40)
theorem cd_Town_init : zCd m_Town_init := ⟨(zg_1 (List.mem_of_getElem? (i := 105) rfl) rfl), (zg_1 (List.mem_of_getElem? (i := 5) rfl) rfl), by decide +kernel, by decide +kernel⟩
def m_Town_lawfulThings : zMI := (⟨"OthersHands$Town", "lawfulThings", "(I)I"⟩, prog_10_method_13_code, 4, some .int, 4, 90)
theorem cd_Town_lawfulThings : zCd m_Town_lawfulThings := ⟨(zg_2 (List.mem_of_getElem? (i := 179) rfl) rfl), (zg_1 (List.mem_of_getElem? (i := 5) rfl) rfl), by decide +kernel, by decide +kernel⟩
def m_Town_mostOf : zMI := (⟨"OthersHands$Town", "mostOf", "(I)I"⟩, prog_10_method_4_code, 1, some .int, 0, 0)
theorem cd_Town_mostOf : zCd m_Town_mostOf := ⟨(zg_2 (List.mem_of_getElem? (i := 106) rfl) rfl), (zg_1 (List.mem_of_getElem? (i := 5) rfl) rfl), by decide +kernel, by decide +kernel⟩
def m_Town_open : zMI := (⟨"OthersHands$Town", "open", "(LOthersHands$Pages;)V"⟩, prog_10_method_3_code, 3, none, 2, 61)
theorem cd_Town_open : zCd m_Town_open := ⟨(zg_2 (List.mem_of_getElem? (i := 73) rfl) rfl), (zg_1 (List.mem_of_getElem? (i := 5) rfl) rfl), by decide +kernel, by decide +kernel⟩
def m_Town_reach : zMI := (⟨"OthersHands$Town", "reach", "(I)I"⟩, prog_10_method_10_code, 5, some .int, 2, 45)
theorem cd_Town_reach : zCd m_Town_reach := ⟨(zg_2 (List.mem_of_getElem? (i := 126) rfl) rfl), (zg_1 (List.mem_of_getElem? (i := 5) rfl) rfl), by decide +kernel, by decide +kernel⟩
def m_Town_taintOf : zMI := (⟨"OthersHands$Town", "taintOf", "(I)I"⟩, prog_10_method_14_code, 4, some .int, 4, 90)
theorem cd_Town_taintOf : zCd m_Town_taintOf := ⟨(zg_2 (List.mem_of_getElem? (i := 183) rfl) rfl), (zg_1 (List.mem_of_getElem? (i := 5) rfl) rfl), by decide +kernel, by decide +kernel⟩
def m_Town_touchers : zMI := (⟨"OthersHands$Town", "touchers", "(I)I"⟩, prog_10_method_11_code, 2, some .int, 3, 69)
theorem cd_Town_touchers : zCd m_Town_touchers := ⟨(zg_2 (List.mem_of_getElem? (i := 122) rfl) rfl), (zg_1 (List.mem_of_getElem? (i := 5) rfl) rfl), by decide +kernel, by decide +kernel⟩
def m_Town_withPartners : zMI := (⟨"OthersHands$Town", "withPartners", "(I)I"⟩, prog_10_method_9_code, 4, some .int, 1, 22)
theorem cd_Town_withPartners : zCd m_Town_withPartners := ⟨(zg_2 (List.mem_of_getElem? (i := 149) rfl) rfl), (zg_1 (List.mem_of_getElem? (i := 5) rfl) rfl), by decide +kernel, by decide +kernel⟩
def m_X_allBarred : zMI := (⟨"OthersHandsModel", "allBarred", "()I"⟩, prog_12_method_44_code, 3, some .int, 3, 68)
theorem cd_X_allBarred : zCd m_X_allBarred := ⟨(zg_4 (List.mem_of_getElem? (i := 162) rfl) rfl), (zg_1 (List.mem_of_getElem? (i := 10) rfl) rfl), by decide +kernel, by decide +kernel⟩
def m_X_asTold : zMI := (⟨"OthersHandsModel", "asTold", "()V"⟩, prog_12_method_17_code, 2, none, 0, 0)
theorem cd_X_asTold : zCd m_X_asTold := ⟨(zg_4 (List.mem_of_getElem? (i := 45) rfl) rfl), (zg_1 (List.mem_of_getElem? (i := 10) rfl) rfl), by decide +kernel, by decide +kernel⟩
def m_X_barredFrom : zMI := (⟨"OthersHandsModel", "barredFrom", "(I)I"⟩, prog_12_method_21_code, 2, some .int, 2, 47)
theorem cd_X_barredFrom : zCd m_X_barredFrom := ⟨(zg_4 (List.mem_of_getElem? (i := 58) rfl) rfl), (zg_1 (List.mem_of_getElem? (i := 10) rfl) rfl), by decide +kernel, by decide +kernel⟩
def m_X_bits : zMI := (⟨"OthersHandsModel", "bits", "(I)I"⟩, prog_12_method_4_code, 3, some .int, 0, 0)
theorem cd_X_bits : zCd m_X_bits := ⟨(zg_4 (List.mem_of_getElem? (i := 76) rfl) rfl), (zg_1 (List.mem_of_getElem? (i := 10) rfl) rfl), by decide +kernel, by decide +kernel⟩
def m_X_book : zMI := (⟨"OthersHandsModel", "book", "()I"⟩, prog_12_method_11_code, 6, some .int, 2, 52)
theorem cd_X_book : zCd m_X_book := ⟨(zg_4 (List.mem_of_getElem? (i := 10) rfl) rfl), (zg_1 (List.mem_of_getElem? (i := 10) rfl) rfl), by decide +kernel, by decide +kernel⟩
def m_X_byTenths : zMI := (⟨"OthersHandsModel", "byTenths", "(I)I"⟩, prog_12_method_23_code, 5, some .int, 2, 48)
theorem cd_X_byTenths : zCd m_X_byTenths := ⟨(zg_4 (List.mem_of_getElem? (i := 69) rfl) rfl), (zg_1 (List.mem_of_getElem? (i := 10) rfl) rfl), by decide +kernel, by decide +kernel⟩
def m_X_codes : zMI := (⟨"OthersHandsModel", "codes", "()I"⟩, prog_12_method_33_code, 3, some .int, 1, 22)
theorem cd_X_codes : zCd m_X_codes := ⟨(zg_4 (List.mem_of_getElem? (i := 114) rfl) rfl), (zg_1 (List.mem_of_getElem? (i := 10) rfl) rfl), by decide +kernel, by decide +kernel⟩
def m_X_days : zMI := (⟨"OthersHandsModel", "days", "(III)I"⟩, prog_12_method_47_code, 10, some .int, 5, 112)
theorem cd_X_days : zCd m_X_days := ⟨(zg_4 (List.mem_of_getElem? (i := 171) rfl) rfl), (zg_1 (List.mem_of_getElem? (i := 10) rfl) rfl), by decide +kernel, by decide +kernel⟩
def m_X_fault : zMI := (⟨"OthersHandsModel", "fault", "()I"⟩, prog_12_method_10_code, 1, some .int, 2, 52)
theorem cd_X_fault : zCd m_X_fault := ⟨(zg_4 (List.mem_of_getElem? (i := 2) rfl) rfl), (zg_1 (List.mem_of_getElem? (i := 10) rfl) rfl), by decide +kernel, by decide +kernel⟩
def m_X_faultOf : zMI := (⟨"OthersHandsModel", "faultOf", "()I"⟩, prog_12_method_9_code, 11, some .int, 1, 22)
theorem cd_X_faultOf : zCd m_X_faultOf := ⟨(zg_4 (List.mem_of_getElem? (i := 6) rfl) rfl), (zg_1 (List.mem_of_getElem? (i := 10) rfl) rfl), by decide +kernel, by decide +kernel⟩
def m_X_fed : zMI := (⟨"OthersHandsModel", "fed", "(I)I"⟩, prog_12_method_39_code, 6, some .int, 5, 112)
theorem cd_X_fed : zCd m_X_fed := ⟨(zg_4 (List.mem_of_getElem? (i := 134) rfl) rfl), (zg_1 (List.mem_of_getElem? (i := 10) rfl) rfl), by decide +kernel, by decide +kernel⟩
def m_X_feeds : zMI := (⟨"OthersHandsModel", "feeds", "(II)Z"⟩, prog_12_method_41_code, 7, some .boolean, 1, 22)
theorem cd_X_feeds : zCd m_X_feeds := ⟨(zg_4 (List.mem_of_getElem? (i := 150) rfl) rfl), (zg_1 (List.mem_of_getElem? (i := 10) rfl) rfl), by decide +kernel, by decide +kernel⟩
def m_X_fill : zMI := (⟨"OthersHandsModel", "fill", "(I)Z"⟩, prog_12_method_35_code, 6, some .boolean, 3, 68)
theorem cd_X_fill : zCd m_X_fill := ⟨(zg_4 (List.mem_of_getElem? (i := 122) rfl) rfl), (zg_1 (List.mem_of_getElem? (i := 10) rfl) rfl), by decide +kernel, by decide +kernel⟩
def m_X_filled : zMI := (⟨"OthersHandsModel", "filled", "(I)I"⟩, prog_12_method_36_code, 5, some .int, 4, 93)
theorem cd_X_filled : zCd m_X_filled := ⟨(zg_4 (List.mem_of_getElem? (i := 110) rfl) rfl), (zg_1 (List.mem_of_getElem? (i := 10) rfl) rfl), by decide +kernel, by decide +kernel⟩
def m_X_forget : zMI := (⟨"OthersHandsModel", "forget", "()I"⟩, prog_12_method_31_code, 2, some .int, 0, 0)
theorem cd_X_forget : zCd m_X_forget := ⟨(zg_4 (List.mem_of_getElem? (i := 106) rfl) rfl), (zg_1 (List.mem_of_getElem? (i := 10) rfl) rfl), by decide +kernel, by decide +kernel⟩
def m_X_has : zMI := (⟨"OthersHandsModel", "has", "(II)Z"⟩, prog_12_method_3_code, 2, some .boolean, 0, 0)
theorem cd_X_has : zCd m_X_has := ⟨(zg_4 (List.mem_of_getElem? (i := 65) rfl) rfl), (zg_1 (List.mem_of_getElem? (i := 10) rfl) rfl), by decide +kernel, by decide +kernel⟩
def m_X_image : zMI := (⟨"OthersHandsModel", "image", "(I)I"⟩, prog_12_method_48_code, 4, some .int, 1, 22)
theorem cd_X_image : zCd m_X_image := ⟨(zg_4 (List.mem_of_getElem? (i := 176) rfl) rfl), (zg_1 (List.mem_of_getElem? (i := 10) rfl) rfl), by decide +kernel, by decide +kernel⟩
def m_X_in : zMI := (⟨"OthersHandsModel", "in", "(III)Z"⟩, prog_12_method_2_code, 3, some .boolean, 0, 0)
theorem cd_X_in : zCd m_X_in := ⟨(zg_3 (List.mem_of_getElem? (i := 234) rfl) rfl), (zg_1 (List.mem_of_getElem? (i := 10) rfl) rfl), by decide +kernel, by decide +kernel⟩
def m_X_init : zMI := (⟨"OthersHandsModel", "<init>", "()V"⟩, prog_12_method_1_code, 2, none, 1, 20)
theorem cd_X_init : zCd m_X_init := ⟨(zg_3 (List.mem_of_getElem? (i := 158) rfl) rfl), (zg_1 (List.mem_of_getElem? (i := 10) rfl) rfl), by decide +kernel, by decide +kernel⟩
def m_X_isMan : zMI := (⟨"OthersHandsModel", "isMan", "(I)Z"⟩, prog_12_method_5_code, 1, some .boolean, 1, 22)
theorem cd_X_isMan : zCd m_X_isMan := ⟨(zg_4 (List.mem_of_getElem? (i := 25) rfl) rfl), (zg_1 (List.mem_of_getElem? (i := 10) rfl) rfl), by decide +kernel, by decide +kernel⟩
def m_X_isThing : zMI := (⟨"OthersHandsModel", "isThing", "(I)Z"⟩, prog_12_method_6_code, 2, some .boolean, 1, 22)
theorem cd_X_isThing : zCd m_X_isThing := ⟨(zg_4 (List.mem_of_getElem? (i := 18) rfl) rfl), (zg_1 (List.mem_of_getElem? (i := 10) rfl) rfl), by decide +kernel, by decide +kernel⟩
def m_X_join : zMI := (⟨"OthersHandsModel", "join", "(II)I"⟩, prog_12_method_13_code, 3, some .int, 2, 42)
theorem cd_X_join : zCd m_X_join := ⟨(zg_4 (List.mem_of_getElem? (i := 22) rfl) rfl), (zg_1 (List.mem_of_getElem? (i := 10) rfl) rfl), by decide +kernel, by decide +kernel⟩
def m_X_lack : zMI := (⟨"OthersHandsModel", "lack", "()I"⟩, prog_12_method_40_code, 5, some .int, 5, 112)
theorem cd_X_lack : zCd m_X_lack := ⟨(zg_4 (List.mem_of_getElem? (i := 142) rfl) rfl), (zg_1 (List.mem_of_getElem? (i := 10) rfl) rfl), by decide +kernel, by decide +kernel⟩
def m_X_layMays : zMI := (⟨"OthersHandsModel", "layMays", "()V"⟩, prog_12_method_38_code, 2, none, 4, 91)
theorem cd_X_layMays : zCd m_X_layMays := ⟨(zg_4 (List.mem_of_getElem? (i := 138) rfl) rfl), (zg_1 (List.mem_of_getElem? (i := 10) rfl) rfl), by decide +kernel, by decide +kernel⟩
def m_X_layPlan : zMI := (⟨"OthersHandsModel", "layPlan", "(I)Z"⟩, prog_12_method_45_code, 7, some .boolean, 0, 0)
theorem cd_X_layPlan : zCd m_X_layPlan := ⟨(zg_4 (List.mem_of_getElem? (i := 167) rfl) rfl), (zg_1 (List.mem_of_getElem? (i := 10) rfl) rfl), by decide +kernel, by decide +kernel⟩
def m_X_loaves : zMI := (⟨"OthersHandsModel", "loaves", "(II)I"⟩, prog_12_method_16_code, 4, some .int, 2, 43)
theorem cd_X_loaves : zCd m_X_loaves := ⟨(zg_4 (List.mem_of_getElem? (i := 37) rfl) rfl), (zg_1 (List.mem_of_getElem? (i := 10) rfl) rfl), by decide +kernel, by decide +kernel⟩
def m_X_makers : zMI := (⟨"OthersHandsModel", "makers", "(II)I"⟩, prog_12_method_42_code, 6, some .int, 2, 48)
theorem cd_X_makers : zCd m_X_makers := ⟨(zg_4 (List.mem_of_getElem? (i := 146) rfl) rfl), (zg_1 (List.mem_of_getElem? (i := 10) rfl) rfl), by decide +kernel, by decide +kernel⟩
def m_X_manAt : zMI := (⟨"OthersHandsModel", "manAt", "(II)I"⟩, prog_12_method_34_code, 5, some .int, 1, 22)
theorem cd_X_manAt : zCd m_X_manAt := ⟨(zg_4 (List.mem_of_getElem? (i := 126) rfl) rfl), (zg_1 (List.mem_of_getElem? (i := 10) rfl) rfl), by decide +kernel, by decide +kernel⟩
def m_X_married : zMI := (⟨"OthersHandsModel", "married", "(I)I"⟩, prog_12_method_46_code, 7, some .int, 4, 90)
theorem cd_X_married : zCd m_X_married := ⟨(zg_4 (List.mem_of_getElem? (i := 158) rfl) rfl), (zg_1 (List.mem_of_getElem? (i := 10) rfl) rfl), by decide +kernel, by decide +kernel⟩
def m_X_may : zMI := (⟨"OthersHandsModel", "may", "(II)I"⟩, prog_12_method_26_code, 5, some .int, 4, 91)
theorem cd_X_may : zCd m_X_may := ⟨(zg_4 (List.mem_of_getElem? (i := 80) rfl) rfl), (zg_1 (List.mem_of_getElem? (i := 10) rfl) rfl), by decide +kernel, by decide +kernel⟩
def m_X_mayHave : zMI := (⟨"OthersHandsModel", "mayHave", "(I)I"⟩, prog_12_method_25_code, 4, some .int, 3, 68)
theorem cd_X_mayHave : zCd m_X_mayHave := ⟨(zg_4 (List.mem_of_getElem? (i := 84) rfl) rfl), (zg_1 (List.mem_of_getElem? (i := 10) rfl) rfl), by decide +kernel, by decide +kernel⟩
def m_X_near : zMI := (⟨"OthersHandsModel", "near", "(II)I"⟩, prog_12_method_28_code, 4, some .int, 2, 48)
theorem cd_X_near : zCd m_X_near := ⟨(zg_4 (List.mem_of_getElem? (i := 88) rfl) rfl), (zg_1 (List.mem_of_getElem? (i := 10) rfl) rfl), by decide +kernel, by decide +kernel⟩
def m_X_nearTo : zMI := (⟨"OthersHandsModel", "nearTo", "(II)I"⟩, prog_12_method_27_code, 5, some .int, 1, 24)
theorem cd_X_nearTo : zCd m_X_nearTo := ⟨(zg_4 (List.mem_of_getElem? (i := 92) rfl) rfl), (zg_1 (List.mem_of_getElem? (i := 10) rfl) rfl), by decide +kernel, by decide +kernel⟩
def m_X_opens : zMI := (⟨"OthersHandsModel", "opens", "()I"⟩, prog_12_method_32_code, 3, some .int, 0, 0)
theorem cd_X_opens : zCd m_X_opens := ⟨(zg_4 (List.mem_of_getElem? (i := 118) rfl) rfl), (zg_1 (List.mem_of_getElem? (i := 10) rfl) rfl), by decide +kernel, by decide +kernel⟩
def m_X_part : zMI := (⟨"OthersHandsModel", "part", "(I)I"⟩, prog_12_method_14_code, 3, some .int, 2, 42)
theorem cd_X_part : zCd m_X_part := ⟨(zg_4 (List.mem_of_getElem? (i := 29) rfl) rfl), (zg_1 (List.mem_of_getElem? (i := 10) rfl) rfl), by decide +kernel, by decide +kernel⟩
def m_X_restore : zMI := (⟨"OthersHandsModel", "restore", "(I)I"⟩, prog_12_method_49_code, 4, some .int, 1, 22)
theorem cd_X_restore : zCd m_X_restore := ⟨(zg_4 (List.mem_of_getElem? (i := 180) rfl) rfl), (zg_1 (List.mem_of_getElem? (i := 10) rfl) rfl), by decide +kernel, by decide +kernel⟩
def m_X_say : zMI := (⟨"OthersHandsModel", "say", "(I)I"⟩, prog_12_method_7_code, 2, some .int, 1, 22)
theorem cd_X_say : zCd m_X_say := ⟨(zg_3 (List.mem_of_getElem? (i := 231) rfl) rfl), (zg_1 (List.mem_of_getElem? (i := 10) rfl) rfl), by decide +kernel, by decide +kernel⟩
def m_X_seen : zMI := (⟨"OthersHandsModel", "seen", "(II)I"⟩, prog_12_method_30_code, 3, some .int, 2, 43)
theorem cd_X_seen : zCd m_X_seen := ⟨(zg_4 (List.mem_of_getElem? (i := 102) rfl) rfl), (zg_1 (List.mem_of_getElem? (i := 10) rfl) rfl), by decide +kernel, by decide +kernel⟩
def m_X_set : zMI := (⟨"OthersHandsModel", "set", "(II)I"⟩, prog_12_method_15_code, 4, some .int, 1, 22)
theorem cd_X_set : zCd m_X_set := ⟨(zg_4 (List.mem_of_getElem? (i := 33) rfl) rfl), (zg_1 (List.mem_of_getElem? (i := 10) rfl) rfl), by decide +kernel, by decide +kernel⟩
def m_X_share : zMI := (⟨"OthersHandsModel", "share", "(III)J"⟩, prog_12_method_29_code, 8, some .long, 2, 48)
theorem cd_X_share : zCd m_X_share := ⟨(zg_4 (List.mem_of_getElem? (i := 96) rfl) rfl), (zg_1 (List.mem_of_getElem? (i := 10) rfl) rfl), by decide +kernel, by decide +kernel⟩
def m_X_shareOf : zMI := (⟨"OthersHandsModel", "shareOf", "(II)I"⟩, prog_12_method_22_code, 7, some .int, 1, 22)
theorem cd_X_shareOf : zCd m_X_shareOf := ⟨(zg_4 (List.mem_of_getElem? (i := 73) rfl) rfl), (zg_1 (List.mem_of_getElem? (i := 10) rfl) rfl), by decide +kernel, by decide +kernel⟩
def m_X_sure : zMI := (⟨"OthersHandsModel", "sure", "(II)I"⟩, prog_12_method_37_code, 8, some .int, 4, 93)
theorem cd_X_sure : zCd m_X_sure := ⟨(zg_4 (List.mem_of_getElem? (i := 130) rfl) rfl), (zg_1 (List.mem_of_getElem? (i := 10) rfl) rfl), by decide +kernel, by decide +kernel⟩
def m_X_thing : zMI := (⟨"OthersHandsModel", "thing", "(II)I"⟩, prog_12_method_12_code, 3, some .int, 2, 43)
theorem cd_X_thing : zCd m_X_thing := ⟨(zg_4 (List.mem_of_getElem? (i := 14) rfl) rfl), (zg_1 (List.mem_of_getElem? (i := 10) rfl) rfl), by decide +kernel, by decide +kernel⟩
def m_X_told : zMI := (⟨"OthersHandsModel", "told", "(I)I"⟩, prog_12_method_50_code, 2, some .int, 2, 43)
theorem cd_X_told : zCd m_X_told := ⟨(zg_4 (List.mem_of_getElem? (i := 184) rfl) rfl), (zg_1 (List.mem_of_getElem? (i := 10) rfl) rfl), by decide +kernel, by decide +kernel⟩
def m_X_touched : zMI := (⟨"OthersHandsModel", "touched", "(II)I"⟩, prog_12_method_24_code, 3, some .int, 3, 72)
theorem cd_X_touched : zCd m_X_touched := ⟨(zg_4 (List.mem_of_getElem? (i := 41) rfl) rfl), (zg_1 (List.mem_of_getElem? (i := 10) rfl) rfl), by decide +kernel, by decide +kernel⟩
def m_X_touchers : zMI := (⟨"OthersHandsModel", "touchers", "(I)I"⟩, prog_12_method_19_code, 4, some .int, 1, 24)
theorem cd_X_touchers : zCd m_X_touchers := ⟨(zg_4 (List.mem_of_getElem? (i := 49) rfl) rfl), (zg_1 (List.mem_of_getElem? (i := 10) rfl) rfl), by decide +kernel, by decide +kernel⟩
def m_X_walk : zMI := (⟨"OthersHandsModel", "walk", "(I)V"⟩, prog_12_method_18_code, 5, none, 0, 0)
theorem cd_X_walk : zCd m_X_walk := ⟨(zg_4 (List.mem_of_getElem? (i := 53) rfl) rfl), (zg_1 (List.mem_of_getElem? (i := 10) rfl) rfl), by decide +kernel, by decide +kernel⟩
def m_X_washed : zMI := (⟨"OthersHandsModel", "washed", "(II)I"⟩, prog_12_method_43_code, 6, some .int, 2, 48)
theorem cd_X_washed : zCd m_X_washed := ⟨(zg_4 (List.mem_of_getElem? (i := 154) rfl) rfl), (zg_1 (List.mem_of_getElem? (i := 10) rfl) rfl), by decide +kernel, by decide +kernel⟩
def m_X_wipe : zMI := (⟨"OthersHandsModel", "wipe", "()I"⟩, prog_12_method_8_code, 2, some .int, 0, 0)
theorem cd_X_wipe : zCd m_X_wipe := ⟨(zg_3 (List.mem_of_getElem? (i := 238) rfl) rfl), (zg_1 (List.mem_of_getElem? (i := 10) rfl) rfl), by decide +kernel, by decide +kernel⟩
def m_X_withPartners : zMI := (⟨"OthersHandsModel", "withPartners", "(I)I"⟩, prog_12_method_20_code, 4, some .int, 1, 21)
theorem cd_X_withPartners : zCd m_X_withPartners := ⟨(zg_4 (List.mem_of_getElem? (i := 62) rfl) rfl), (zg_1 (List.mem_of_getElem? (i := 10) rfl) rfl), by decide +kernel, by decide +kernel⟩
def SHP (g : Nat → Option Nat) (X : List zShp) : List zShp :=
  (.inr (.inl (8, [some (some 1), some (some 3), some (some 10), some (some 21), some (some 22), some (some 24), some (some 27), some (some 31)]))) :: (.inr (.inl (3, [some (some 2), none]))) :: (.inl (0, 60)) :: (.inr (.inl (5, [some (some 4), none, none]))) :: (.inr (.inl (4, [some (some 5), some (some 6), some (some 7), some (some 8), some (some 9), none]))) :: (.inl (0, 10)) :: (.inl (0, 10)) :: (.inl (0, 10)) :: (.inl (0, 10)) :: (.inl (0, 10)) :: (.inr (.inl (7, [some (some 11), some (some 17), some (some 18), some (some 19), some (some 20), none, none, none, none]))) :: (.inr (.inl (4, [some (some 12), some (some 13), some (some 14), some (some 15), some (some 16), none]))) :: (.inl (0, 10)) :: (.inl (0, 10)) :: (.inl (0, 10)) :: (.inl (0, 10)) :: (.inl (0, 10)) :: (.inl (0, 6)) :: (.inl (0, 10)) :: (.inl (0, 6)) :: (.inl (0, 6)) :: (.inr (.inr (2, g))) :: (.inr (.inl (6, [some (some 23)]))) :: (.inl (0, 10)) :: (.inr (.inl (1, [some (some 25), some (some 26), none, none]))) :: (.inl (0, 4)) :: (.inl (0, 4)) :: (.inr (.inl (0, [some (some 28), some (some 29), some (some 30)]))) :: (.inl (0, 6)) :: (.inl (0, 10)) :: (.inl (0, 6)) :: (.inr (.inl (2, [some (some 32), some (some 33), some (some 34)]))) :: (.inl (0, 6)) :: (.inl (0, 64)) :: (.inl (0, 6)) :: (.inr (.inl (9, [none, none, none, some (some 36), none, some (some 37), none, some (some 38), some (some 39), none, some (some 40), some (some 41), some (some 42), some (some 43), some (some 44), some (some 45), some (some 46), some (some 47), some (some 48), some (some 49), some (some 50), some (some 51)]))) :: (.inl (0, 6)) :: (.inl (0, 60)) :: (.inl (0, 50)) :: (.inl (0, 10)) :: (.inl (0, 12)) :: (.inl (0, 10)) :: (.inl (0, 10)) :: (.inl (0, 10)) :: (.inl (0, 6)) :: (.inl (0, 6)) :: (.inl (0, 6)) :: (.inl (0, 10)) :: (.inl (0, 6)) :: (.inl (0, 6)) :: (.inl (0, 168)) :: (.inl (1, 2)) :: X
theorem sh_0 (g : Nat → Option Nat) (X : List zShp) : (SHP g X)[0]? = some (.inr (.inl (8, [some (some 1), some (some 3), some (some 10), some (some 21), some (some 22), some (some 24), some (some 27), some (some 31)]))) := rfl
theorem sh_1 (g : Nat → Option Nat) (X : List zShp) : (SHP g X)[1]? = some (.inr (.inl (3, [some (some 2), none]))) := rfl
theorem sh_2 (g : Nat → Option Nat) (X : List zShp) : (SHP g X)[2]? = some (.inl (0, 60)) := rfl
theorem sh_3 (g : Nat → Option Nat) (X : List zShp) : (SHP g X)[3]? = some (.inr (.inl (5, [some (some 4), none, none]))) := rfl
theorem sh_4 (g : Nat → Option Nat) (X : List zShp) : (SHP g X)[4]? = some (.inr (.inl (4, [some (some 5), some (some 6), some (some 7), some (some 8), some (some 9), none]))) := rfl
theorem sh_5 (g : Nat → Option Nat) (X : List zShp) : (SHP g X)[5]? = some (.inl (0, 10)) := rfl
theorem sh_6 (g : Nat → Option Nat) (X : List zShp) : (SHP g X)[6]? = some (.inl (0, 10)) := rfl
theorem sh_7 (g : Nat → Option Nat) (X : List zShp) : (SHP g X)[7]? = some (.inl (0, 10)) := rfl
theorem sh_8 (g : Nat → Option Nat) (X : List zShp) : (SHP g X)[8]? = some (.inl (0, 10)) := rfl
theorem sh_9 (g : Nat → Option Nat) (X : List zShp) : (SHP g X)[9]? = some (.inl (0, 10)) := rfl
theorem sh_10 (g : Nat → Option Nat) (X : List zShp) : (SHP g X)[10]? = some (.inr (.inl (7, [some (some 11), some (some 17), some (some 18), some (some 19), some (some 20), none, none, none, none]))) := rfl
theorem sh_11 (g : Nat → Option Nat) (X : List zShp) : (SHP g X)[11]? = some (.inr (.inl (4, [some (some 12), some (some 13), some (some 14), some (some 15), some (some 16), none]))) := rfl
theorem sh_12 (g : Nat → Option Nat) (X : List zShp) : (SHP g X)[12]? = some (.inl (0, 10)) := rfl
theorem sh_13 (g : Nat → Option Nat) (X : List zShp) : (SHP g X)[13]? = some (.inl (0, 10)) := rfl
theorem sh_14 (g : Nat → Option Nat) (X : List zShp) : (SHP g X)[14]? = some (.inl (0, 10)) := rfl
theorem sh_15 (g : Nat → Option Nat) (X : List zShp) : (SHP g X)[15]? = some (.inl (0, 10)) := rfl
theorem sh_16 (g : Nat → Option Nat) (X : List zShp) : (SHP g X)[16]? = some (.inl (0, 10)) := rfl
theorem sh_17 (g : Nat → Option Nat) (X : List zShp) : (SHP g X)[17]? = some (.inl (0, 6)) := rfl
theorem sh_18 (g : Nat → Option Nat) (X : List zShp) : (SHP g X)[18]? = some (.inl (0, 10)) := rfl
theorem sh_19 (g : Nat → Option Nat) (X : List zShp) : (SHP g X)[19]? = some (.inl (0, 6)) := rfl
theorem sh_20 (g : Nat → Option Nat) (X : List zShp) : (SHP g X)[20]? = some (.inl (0, 6)) := rfl
theorem sh_21 (g : Nat → Option Nat) (X : List zShp) : (SHP g X)[21]? = some (.inr (.inr (2, g))) := rfl
theorem sh_22 (g : Nat → Option Nat) (X : List zShp) : (SHP g X)[22]? = some (.inr (.inl (6, [some (some 23)]))) := rfl
theorem sh_23 (g : Nat → Option Nat) (X : List zShp) : (SHP g X)[23]? = some (.inl (0, 10)) := rfl
theorem sh_24 (g : Nat → Option Nat) (X : List zShp) : (SHP g X)[24]? = some (.inr (.inl (1, [some (some 25), some (some 26), none, none]))) := rfl
theorem sh_25 (g : Nat → Option Nat) (X : List zShp) : (SHP g X)[25]? = some (.inl (0, 4)) := rfl
theorem sh_26 (g : Nat → Option Nat) (X : List zShp) : (SHP g X)[26]? = some (.inl (0, 4)) := rfl
theorem sh_27 (g : Nat → Option Nat) (X : List zShp) : (SHP g X)[27]? = some (.inr (.inl (0, [some (some 28), some (some 29), some (some 30)]))) := rfl
theorem sh_28 (g : Nat → Option Nat) (X : List zShp) : (SHP g X)[28]? = some (.inl (0, 6)) := rfl
theorem sh_29 (g : Nat → Option Nat) (X : List zShp) : (SHP g X)[29]? = some (.inl (0, 10)) := rfl
theorem sh_30 (g : Nat → Option Nat) (X : List zShp) : (SHP g X)[30]? = some (.inl (0, 6)) := rfl
theorem sh_31 (g : Nat → Option Nat) (X : List zShp) : (SHP g X)[31]? = some (.inr (.inl (2, [some (some 32), some (some 33), some (some 34)]))) := rfl
theorem sh_32 (g : Nat → Option Nat) (X : List zShp) : (SHP g X)[32]? = some (.inl (0, 6)) := rfl
theorem sh_33 (g : Nat → Option Nat) (X : List zShp) : (SHP g X)[33]? = some (.inl (0, 64)) := rfl
theorem sh_34 (g : Nat → Option Nat) (X : List zShp) : (SHP g X)[34]? = some (.inl (0, 6)) := rfl
theorem sh_35 (g : Nat → Option Nat) (X : List zShp) : (SHP g X)[35]? = some (.inr (.inl (9, [none, none, none, some (some 36), none, some (some 37), none, some (some 38), some (some 39), none, some (some 40), some (some 41), some (some 42), some (some 43), some (some 44), some (some 45), some (some 46), some (some 47), some (some 48), some (some 49), some (some 50), some (some 51)]))) := rfl
theorem sh_36 (g : Nat → Option Nat) (X : List zShp) : (SHP g X)[36]? = some (.inl (0, 6)) := rfl
theorem sh_37 (g : Nat → Option Nat) (X : List zShp) : (SHP g X)[37]? = some (.inl (0, 60)) := rfl
theorem sh_38 (g : Nat → Option Nat) (X : List zShp) : (SHP g X)[38]? = some (.inl (0, 50)) := rfl
theorem sh_39 (g : Nat → Option Nat) (X : List zShp) : (SHP g X)[39]? = some (.inl (0, 10)) := rfl
theorem sh_40 (g : Nat → Option Nat) (X : List zShp) : (SHP g X)[40]? = some (.inl (0, 12)) := rfl
theorem sh_41 (g : Nat → Option Nat) (X : List zShp) : (SHP g X)[41]? = some (.inl (0, 10)) := rfl
theorem sh_42 (g : Nat → Option Nat) (X : List zShp) : (SHP g X)[42]? = some (.inl (0, 10)) := rfl
theorem sh_43 (g : Nat → Option Nat) (X : List zShp) : (SHP g X)[43]? = some (.inl (0, 10)) := rfl
theorem sh_44 (g : Nat → Option Nat) (X : List zShp) : (SHP g X)[44]? = some (.inl (0, 6)) := rfl
theorem sh_45 (g : Nat → Option Nat) (X : List zShp) : (SHP g X)[45]? = some (.inl (0, 6)) := rfl
theorem sh_46 (g : Nat → Option Nat) (X : List zShp) : (SHP g X)[46]? = some (.inl (0, 6)) := rfl
theorem sh_47 (g : Nat → Option Nat) (X : List zShp) : (SHP g X)[47]? = some (.inl (0, 10)) := rfl
theorem sh_48 (g : Nat → Option Nat) (X : List zShp) : (SHP g X)[48]? = some (.inl (0, 6)) := rfl
theorem sh_49 (g : Nat → Option Nat) (X : List zShp) : (SHP g X)[49]? = some (.inl (0, 6)) := rfl
theorem sh_50 (g : Nat → Option Nat) (X : List zShp) : (SHP g X)[50]? = some (.inl (0, 168)) := rfl
theorem sh_51 (g : Nat → Option Nat) (X : List zShp) : (SHP g X)[51]? = some (.inl (1, 2)) := rfl
end
section
theorem d_Bakers_barredForEach_0 : decode m_Bakers_barredForEach.2.1 0 = .ok (.bipush 63, 2) := by decide +kernel
theorem d_Bakers_barredForEach_2 : decode m_Bakers_barredForEach.2.1 2 = .ok (.istore_n 2, 1) := by decide +kernel
theorem d_Bakers_barredForEach_3 : decode m_Bakers_barredForEach.2.1 3 = .ok (.iconst 0, 1) := by decide +kernel
theorem d_Bakers_barredForEach_4 : decode m_Bakers_barredForEach.2.1 4 = .ok (.istore_n 3, 1) := by decide +kernel
theorem d_Bakers_barredForEach_5 : decode m_Bakers_barredForEach.2.1 5 = .ok (.iload_n 3, 1) := by decide +kernel
theorem d_Bakers_barredForEach_6 : decode m_Bakers_barredForEach.2.1 6 = .ok (.bipush 6, 2) := by decide +kernel
theorem d_Bakers_barredForEach_8 : decode m_Bakers_barredForEach.2.1 8 = .ok (.if_icmp .ge 25, 3) := by decide +kernel
theorem d_Bakers_barredForEach_11 : decode m_Bakers_barredForEach.2.1 11 = .ok (.iload_n 1, 1) := by decide +kernel
theorem d_Bakers_barredForEach_12 : decode m_Bakers_barredForEach.2.1 12 = .ok (.iload_n 3, 1) := by decide +kernel
theorem d_Bakers_barredForEach_13 : decode m_Bakers_barredForEach.2.1 13 = .ok (.invokestatic 25, 3) := by decide +kernel
theorem d_Bakers_barredForEach_16 : decode m_Bakers_barredForEach.2.1 16 = .ok (.ifCond .eq 11, 3) := by decide +kernel
theorem d_Bakers_barredForEach_19 : decode m_Bakers_barredForEach.2.1 19 = .ok (.iload_n 2, 1) := by decide +kernel
theorem d_Bakers_barredForEach_20 : decode m_Bakers_barredForEach.2.1 20 = .ok (.aload_n 0, 1) := by decide +kernel
theorem d_Bakers_barredForEach_21 : decode m_Bakers_barredForEach.2.1 21 = .ok (.iload_n 3, 1) := by decide +kernel
theorem d_Bakers_barredForEach_22 : decode m_Bakers_barredForEach.2.1 22 = .ok (.invokevirtual 29, 3) := by decide +kernel
theorem d_Bakers_barredForEach_25 : decode m_Bakers_barredForEach.2.1 25 = .ok (.iand, 1) := by decide +kernel
theorem d_Bakers_barredForEach_26 : decode m_Bakers_barredForEach.2.1 26 = .ok (.istore_n 2, 1) := by decide +kernel
theorem d_Bakers_barredForEach_27 : decode m_Bakers_barredForEach.2.1 27 = .ok (.iinc 3 1, 3) := by decide +kernel
theorem d_Bakers_barredForEach_30 : decode m_Bakers_barredForEach.2.1 30 = .ok (.goto (-25), 3) := by decide +kernel
theorem d_Bakers_barredForEach_33 : decode m_Bakers_barredForEach.2.1 33 = .ok (.iload_n 2, 1) := by decide +kernel
theorem d_Bakers_barredForEach_34 : decode m_Bakers_barredForEach.2.1 34 = .ok (.ireturn, 1) := by decide +kernel
theorem d_Bakers_feedAll_0 : decode m_Bakers_feedAll.2.1 0 = .ok (.bipush 63, 2) := by decide +kernel
theorem d_Bakers_feedAll_2 : decode m_Bakers_feedAll.2.1 2 = .ok (.istore_n 3, 1) := by decide +kernel
theorem d_Bakers_feedAll_3 : decode m_Bakers_feedAll.2.1 3 = .ok (.iload_n 3, 1) := by decide +kernel
theorem d_Bakers_feedAll_4 : decode m_Bakers_feedAll.2.1 4 = .ok (.ifCond .le 36, 3) := by decide +kernel
theorem d_Bakers_feedAll_7 : decode m_Bakers_feedAll.2.1 7 = .ok (.iload_n 1, 1) := by decide +kernel
theorem d_Bakers_feedAll_8 : decode m_Bakers_feedAll.2.1 8 = .ok (.aload_n 0, 1) := by decide +kernel
theorem d_Bakers_feedAll_9 : decode m_Bakers_feedAll.2.1 9 = .ok (.iload_n 3, 1) := by decide +kernel
theorem d_Bakers_feedAll_10 : decode m_Bakers_feedAll.2.1 10 = .ok (.invokestatic 21, 3) := by decide +kernel
theorem d_Bakers_feedAll_13 : decode m_Bakers_feedAll.2.1 13 = .ok (.iconst (-1), 1) := by decide +kernel
theorem d_Bakers_feedAll_14 : decode m_Bakers_feedAll.2.1 14 = .ok (.ixor, 1) := by decide +kernel
theorem d_Bakers_feedAll_15 : decode m_Bakers_feedAll.2.1 15 = .ok (.iand, 1) := by decide +kernel
theorem d_Bakers_feedAll_16 : decode m_Bakers_feedAll.2.1 16 = .ok (.istore 4, 2) := by decide +kernel
theorem d_Bakers_feedAll_18 : decode m_Bakers_feedAll.2.1 18 = .ok (.iload_n 2, 1) := by decide +kernel
theorem d_Bakers_feedAll_19 : decode m_Bakers_feedAll.2.1 19 = .ok (.iload 4, 2) := by decide +kernel
theorem d_Bakers_feedAll_21 : decode m_Bakers_feedAll.2.1 21 = .ok (.invokestatic 9, 3) := by decide +kernel
theorem d_Bakers_feedAll_24 : decode m_Bakers_feedAll.2.1 24 = .ok (.imul, 1) := by decide +kernel
theorem d_Bakers_feedAll_25 : decode m_Bakers_feedAll.2.1 25 = .ok (.iload_n 3, 1) := by decide +kernel
theorem d_Bakers_feedAll_26 : decode m_Bakers_feedAll.2.1 26 = .ok (.invokestatic 9, 3) := by decide +kernel
theorem d_Bakers_feedAll_29 : decode m_Bakers_feedAll.2.1 29 = .ok (.if_icmp .ge 5, 3) := by decide +kernel
theorem d_Bakers_feedAll_32 : decode m_Bakers_feedAll.2.1 32 = .ok (.iconst 0, 1) := by decide +kernel
theorem d_Bakers_feedAll_33 : decode m_Bakers_feedAll.2.1 33 = .ok (.ireturn, 1) := by decide +kernel
theorem d_Bakers_feedAll_34 : decode m_Bakers_feedAll.2.1 34 = .ok (.iinc 3 (-1), 3) := by decide +kernel
theorem d_Bakers_feedAll_37 : decode m_Bakers_feedAll.2.1 37 = .ok (.goto (-34), 3) := by decide +kernel
theorem d_Bakers_feedAll_40 : decode m_Bakers_feedAll.2.1 40 = .ok (.iconst 1, 1) := by decide +kernel
theorem d_Bakers_feedAll_41 : decode m_Bakers_feedAll.2.1 41 = .ok (.ireturn, 1) := by decide +kernel
theorem d_Bakers_fewest_0 : decode m_Bakers_fewest.2.1 0 = .ok (.bipush (-6), 2) := by decide +kernel
theorem d_Bakers_fewest_2 : decode m_Bakers_fewest.2.1 2 = .ok (.istore_n 2, 1) := by decide +kernel
theorem d_Bakers_fewest_3 : decode m_Bakers_fewest.2.1 3 = .ok (.iconst 1, 1) := by decide +kernel
theorem d_Bakers_fewest_4 : decode m_Bakers_fewest.2.1 4 = .ok (.istore_n 3, 1) := by decide +kernel
theorem d_Bakers_fewest_5 : decode m_Bakers_fewest.2.1 5 = .ok (.iload_n 3, 1) := by decide +kernel
theorem d_Bakers_fewest_6 : decode m_Bakers_fewest.2.1 6 = .ok (.bipush 63, 2) := by decide +kernel
theorem d_Bakers_fewest_8 : decode m_Bakers_fewest.2.1 8 = .ok (.if_icmp .gt 49, 3) := by decide +kernel
theorem d_Bakers_fewest_11 : decode m_Bakers_fewest.2.1 11 = .ok (.iload_n 2, 1) := by decide +kernel
theorem d_Bakers_fewest_12 : decode m_Bakers_fewest.2.1 12 = .ok (.bipush (-6), 2) := by decide +kernel
theorem d_Bakers_fewest_14 : decode m_Bakers_fewest.2.1 14 = .ok (.if_icmp .eq 14, 3) := by decide +kernel
theorem d_Bakers_fewest_17 : decode m_Bakers_fewest.2.1 17 = .ok (.iload_n 3, 1) := by decide +kernel
theorem d_Bakers_fewest_18 : decode m_Bakers_fewest.2.1 18 = .ok (.invokestatic 9, 3) := by decide +kernel
theorem d_Bakers_fewest_21 : decode m_Bakers_fewest.2.1 21 = .ok (.iload_n 2, 1) := by decide +kernel
theorem d_Bakers_fewest_22 : decode m_Bakers_fewest.2.1 22 = .ok (.invokestatic 9, 3) := by decide +kernel
theorem d_Bakers_fewest_25 : decode m_Bakers_fewest.2.1 25 = .ok (.if_icmp .ge 7, 3) := by decide +kernel
theorem d_Bakers_fewest_28 : decode m_Bakers_fewest.2.1 28 = .ok (.iconst 1, 1) := by decide +kernel
theorem d_Bakers_fewest_29 : decode m_Bakers_fewest.2.1 29 = .ok (.goto 4, 3) := by decide +kernel
theorem d_Bakers_fewest_32 : decode m_Bakers_fewest.2.1 32 = .ok (.iconst 0, 1) := by decide +kernel
theorem d_Bakers_fewest_33 : decode m_Bakers_fewest.2.1 33 = .ok (.istore 4, 2) := by decide +kernel
theorem d_Bakers_fewest_35 : decode m_Bakers_fewest.2.1 35 = .ok (.iload 4, 2) := by decide +kernel
theorem d_Bakers_fewest_37 : decode m_Bakers_fewest.2.1 37 = .ok (.ifCond .eq 14, 3) := by decide +kernel
theorem d_Bakers_fewest_40 : decode m_Bakers_fewest.2.1 40 = .ok (.aload_n 0, 1) := by decide +kernel
theorem d_Bakers_fewest_41 : decode m_Bakers_fewest.2.1 41 = .ok (.iload_n 3, 1) := by decide +kernel
theorem d_Bakers_fewest_42 : decode m_Bakers_fewest.2.1 42 = .ok (.iload_n 1, 1) := by decide +kernel
theorem d_Bakers_fewest_43 : decode m_Bakers_fewest.2.1 43 = .ok (.invokestatic 15, 3) := by decide +kernel
theorem d_Bakers_fewest_46 : decode m_Bakers_fewest.2.1 46 = .ok (.ifCond .eq 5, 3) := by decide +kernel
theorem d_Bakers_fewest_49 : decode m_Bakers_fewest.2.1 49 = .ok (.iload_n 3, 1) := by decide +kernel
theorem d_Bakers_fewest_50 : decode m_Bakers_fewest.2.1 50 = .ok (.istore_n 2, 1) := by decide +kernel
theorem d_Bakers_fewest_51 : decode m_Bakers_fewest.2.1 51 = .ok (.iinc 3 1, 3) := by decide +kernel
theorem d_Bakers_fewest_54 : decode m_Bakers_fewest.2.1 54 = .ok (.goto (-49), 3) := by decide +kernel
theorem d_Bakers_fewest_57 : decode m_Bakers_fewest.2.1 57 = .ok (.iload_n 2, 1) := by decide +kernel
theorem d_Bakers_fewest_58 : decode m_Bakers_fewest.2.1 58 = .ok (.ireturn, 1) := by decide +kernel
theorem d_Bread_eats_0 : decode m_Bread_eats.2.1 0 = .ok (.iconst 0, 1) := by decide +kernel
theorem d_Bread_eats_1 : decode m_Bread_eats.2.1 1 = .ok (.istore_n 2, 1) := by decide +kernel
theorem d_Bread_eats_2 : decode m_Bread_eats.2.1 2 = .ok (.iload_n 2, 1) := by decide +kernel
theorem d_Bread_eats_3 : decode m_Bread_eats.2.1 3 = .ok (.bipush 10, 2) := by decide +kernel
theorem d_Bread_eats_5 : decode m_Bread_eats.2.1 5 = .ok (.if_icmp .ge 43, 3) := by decide +kernel
theorem d_Bread_eats_8 : decode m_Bread_eats.2.1 8 = .ok (.aload_n 0, 1) := by decide +kernel
theorem d_Bread_eats_9 : decode m_Bread_eats.2.1 9 = .ok (.getfield 9, 3) := by decide +kernel
theorem d_Bread_eats_12 : decode m_Bread_eats.2.1 12 = .ok (.iload_n 1, 1) := by decide +kernel
theorem d_Bread_eats_13 : decode m_Bread_eats.2.1 13 = .ok (.iaload, 1) := by decide +kernel
theorem d_Bread_eats_14 : decode m_Bread_eats.2.1 14 = .ok (.iload_n 2, 1) := by decide +kernel
theorem d_Bread_eats_15 : decode m_Bread_eats.2.1 15 = .ok (.invokestatic 36, 3) := by decide +kernel
theorem d_Bread_eats_18 : decode m_Bread_eats.2.1 18 = .ok (.ifCond .eq 24, 3) := by decide +kernel
theorem d_Bread_eats_21 : decode m_Bread_eats.2.1 21 = .ok (.aload_n 0, 1) := by decide +kernel
theorem d_Bread_eats_22 : decode m_Bread_eats.2.1 22 = .ok (.getfield 15, 3) := by decide +kernel
theorem d_Bread_eats_25 : decode m_Bread_eats.2.1 25 = .ok (.iload_n 2, 1) := by decide +kernel
theorem d_Bread_eats_26 : decode m_Bread_eats.2.1 26 = .ok (.iaload, 1) := by decide +kernel
theorem d_Bread_eats_27 : decode m_Bread_eats.2.1 27 = .ok (.ifCond .le 15, 3) := by decide +kernel
theorem d_Bread_eats_30 : decode m_Bread_eats.2.1 30 = .ok (.aload_n 0, 1) := by decide +kernel
theorem d_Bread_eats_31 : decode m_Bread_eats.2.1 31 = .ok (.getfield 15, 3) := by decide +kernel
theorem d_Bread_eats_34 : decode m_Bread_eats.2.1 34 = .ok (.iload_n 2, 1) := by decide +kernel
theorem d_Bread_eats_35 : decode m_Bread_eats.2.1 35 = .ok (.dup2, 1) := by decide +kernel
theorem d_Bread_eats_36 : decode m_Bread_eats.2.1 36 = .ok (.iaload, 1) := by decide +kernel
theorem d_Bread_eats_37 : decode m_Bread_eats.2.1 37 = .ok (.iconst 1, 1) := by decide +kernel
theorem d_Bread_eats_38 : decode m_Bread_eats.2.1 38 = .ok (.isub, 1) := by decide +kernel
theorem d_Bread_eats_39 : decode m_Bread_eats.2.1 39 = .ok (.iastore, 1) := by decide +kernel
theorem d_Bread_eats_40 : decode m_Bread_eats.2.1 40 = .ok (.iconst 1, 1) := by decide +kernel
theorem d_Bread_eats_41 : decode m_Bread_eats.2.1 41 = .ok (.ireturn, 1) := by decide +kernel
theorem d_Bread_eats_42 : decode m_Bread_eats.2.1 42 = .ok (.iinc 2 1, 3) := by decide +kernel
theorem d_Bread_eats_45 : decode m_Bread_eats.2.1 45 = .ok (.goto (-43), 3) := by decide +kernel
theorem d_Bread_eats_48 : decode m_Bread_eats.2.1 48 = .ok (.iconst 0, 1) := by decide +kernel
theorem d_Bread_eats_49 : decode m_Bread_eats.2.1 49 = .ok (.ireturn, 1) := by decide +kernel
theorem d_Bread_init_0 : decode m_Bread_init.2.1 0 = .ok (.aload_n 0, 1) := by decide +kernel
theorem d_Bread_init_1 : decode m_Bread_init.2.1 1 = .ok (.invokespecial 3, 3) := by decide +kernel
theorem d_Bread_init_4 : decode m_Bread_init.2.1 4 = .ok (.aload_n 0, 1) := by decide +kernel
theorem d_Bread_init_5 : decode m_Bread_init.2.1 5 = .ok (.bipush 6, 2) := by decide +kernel
theorem d_Bread_init_7 : decode m_Bread_init.2.1 7 = .ok (.newarray .int, 2) := by decide +kernel
theorem d_Bread_init_9 : decode m_Bread_init.2.1 9 = .ok (.putfield 9, 3) := by decide +kernel
theorem d_Bread_init_12 : decode m_Bread_init.2.1 12 = .ok (.aload_n 0, 1) := by decide +kernel
theorem d_Bread_init_13 : decode m_Bread_init.2.1 13 = .ok (.bipush 10, 2) := by decide +kernel
theorem d_Bread_init_15 : decode m_Bread_init.2.1 15 = .ok (.newarray .int, 2) := by decide +kernel
theorem d_Bread_init_17 : decode m_Bread_init.2.1 17 = .ok (.putfield 15, 3) := by decide +kernel
theorem d_Bread_init_20 : decode m_Bread_init.2.1 20 = .ok (.aload_n 0, 1) := by decide +kernel
theorem d_Bread_init_21 : decode m_Bread_init.2.1 21 = .ok (.bipush 6, 2) := by decide +kernel
theorem d_Bread_init_23 : decode m_Bread_init.2.1 23 = .ok (.newarray .int, 2) := by decide +kernel
theorem d_Bread_init_25 : decode m_Bread_init.2.1 25 = .ok (.putfield 18, 3) := by decide +kernel
theorem d_Bread_init_28 : decode m_Bread_init.2.1 28 = .ok (.return_, 1) := by decide +kernel
theorem d_Bread_layOut_0 : decode m_Bread_layOut.2.1 0 = .ok (.iconst 0, 1) := by decide +kernel
theorem d_Bread_layOut_1 : decode m_Bread_layOut.2.1 1 = .ok (.istore_n 2, 1) := by decide +kernel
theorem d_Bread_layOut_2 : decode m_Bread_layOut.2.1 2 = .ok (.iload_n 2, 1) := by decide +kernel
theorem d_Bread_layOut_3 : decode m_Bread_layOut.2.1 3 = .ok (.bipush 6, 2) := by decide +kernel
theorem d_Bread_layOut_5 : decode m_Bread_layOut.2.1 5 = .ok (.if_icmp .ge 20, 3) := by decide +kernel
theorem d_Bread_layOut_8 : decode m_Bread_layOut.2.1 8 = .ok (.aload_n 0, 1) := by decide +kernel
theorem d_Bread_layOut_9 : decode m_Bread_layOut.2.1 9 = .ok (.getfield 9, 3) := by decide +kernel
theorem d_Bread_layOut_12 : decode m_Bread_layOut.2.1 12 = .ok (.iload_n 2, 1) := by decide +kernel
theorem d_Bread_layOut_13 : decode m_Bread_layOut.2.1 13 = .ok (.aload_n 1, 1) := by decide +kernel
theorem d_Bread_layOut_14 : decode m_Bread_layOut.2.1 14 = .ok (.iload_n 2, 1) := by decide +kernel
theorem d_Bread_layOut_15 : decode m_Bread_layOut.2.1 15 = .ok (.invokevirtual 21, 3) := by decide +kernel
theorem d_Bread_layOut_18 : decode m_Bread_layOut.2.1 18 = .ok (.iastore, 1) := by decide +kernel
theorem d_Bread_layOut_19 : decode m_Bread_layOut.2.1 19 = .ok (.iinc 2 1, 3) := by decide +kernel
theorem d_Bread_layOut_22 : decode m_Bread_layOut.2.1 22 = .ok (.goto (-20), 3) := by decide +kernel
theorem d_Bread_layOut_25 : decode m_Bread_layOut.2.1 25 = .ok (.aload_n 1, 1) := by decide +kernel
theorem d_Bread_layOut_26 : decode m_Bread_layOut.2.1 26 = .ok (.getfield 27, 3) := by decide +kernel
theorem d_Bread_layOut_29 : decode m_Bread_layOut.2.1 29 = .ok (.iconst 0, 1) := by decide +kernel
theorem d_Bread_layOut_30 : decode m_Bread_layOut.2.1 30 = .ok (.aload_n 0, 1) := by decide +kernel
theorem d_Bread_layOut_31 : decode m_Bread_layOut.2.1 31 = .ok (.getfield 15, 3) := by decide +kernel
theorem d_Bread_layOut_34 : decode m_Bread_layOut.2.1 34 = .ok (.iconst 0, 1) := by decide +kernel
theorem d_Bread_layOut_35 : decode m_Bread_layOut.2.1 35 = .ok (.bipush 10, 2) := by decide +kernel
theorem d_Bread_layOut_37 : decode m_Bread_layOut.2.1 37 = .ok (.invokestatic 30, 3) := by decide +kernel
theorem d_Bread_layOut_40 : decode m_Bread_layOut.2.1 40 = .ok (.return_, 1) := by decide +kernel
theorem d_Bread_leastShortSet_0 : decode m_Bread_leastShortSet.2.1 0 = .ok (.iconst 1, 1) := by decide +kernel
theorem d_Bread_leastShortSet_1 : decode m_Bread_leastShortSet.2.1 1 = .ok (.istore_n 1, 1) := by decide +kernel
theorem d_Bread_leastShortSet_2 : decode m_Bread_leastShortSet.2.1 2 = .ok (.iload_n 1, 1) := by decide +kernel
theorem d_Bread_leastShortSet_3 : decode m_Bread_leastShortSet.2.1 3 = .ok (.bipush 63, 2) := by decide +kernel
theorem d_Bread_leastShortSet_5 : decode m_Bread_leastShortSet.2.1 5 = .ok (.if_icmp .gt 23, 3) := by decide +kernel
theorem d_Bread_leastShortSet_8 : decode m_Bread_leastShortSet.2.1 8 = .ok (.aload_n 0, 1) := by decide +kernel
theorem d_Bread_leastShortSet_9 : decode m_Bread_leastShortSet.2.1 9 = .ok (.iload_n 1, 1) := by decide +kernel
theorem d_Bread_leastShortSet_10 : decode m_Bread_leastShortSet.2.1 10 = .ok (.invokevirtual 45, 3) := by decide +kernel
theorem d_Bread_leastShortSet_13 : decode m_Bread_leastShortSet.2.1 13 = .ok (.iload_n 1, 1) := by decide +kernel
theorem d_Bread_leastShortSet_14 : decode m_Bread_leastShortSet.2.1 14 = .ok (.invokestatic 40, 3) := by decide +kernel
theorem d_Bread_leastShortSet_17 : decode m_Bread_leastShortSet.2.1 17 = .ok (.if_icmp .ge 5, 3) := by decide +kernel
theorem d_Bread_leastShortSet_20 : decode m_Bread_leastShortSet.2.1 20 = .ok (.iload_n 1, 1) := by decide +kernel
theorem d_Bread_leastShortSet_21 : decode m_Bread_leastShortSet.2.1 21 = .ok (.ireturn, 1) := by decide +kernel
theorem d_Bread_leastShortSet_22 : decode m_Bread_leastShortSet.2.1 22 = .ok (.iinc 1 1, 3) := by decide +kernel
theorem d_Bread_leastShortSet_25 : decode m_Bread_leastShortSet.2.1 25 = .ok (.goto (-23), 3) := by decide +kernel
theorem d_Bread_leastShortSet_28 : decode m_Bread_leastShortSet.2.1 28 = .ok (.bipush (-6), 2) := by decide +kernel
theorem d_Bread_leastShortSet_30 : decode m_Bread_leastShortSet.2.1 30 = .ok (.ireturn, 1) := by decide +kernel
theorem d_Bread_live_0 : decode m_Bread_live.2.1 0 = .ok (.iload_n 1, 1) := by decide +kernel
theorem d_Bread_live_1 : decode m_Bread_live.2.1 1 = .ok (.istore_n 3, 1) := by decide +kernel
theorem d_Bread_live_2 : decode m_Bread_live.2.1 2 = .ok (.iconst 0, 1) := by decide +kernel
theorem d_Bread_live_3 : decode m_Bread_live.2.1 3 = .ok (.istore 4, 2) := by decide +kernel
theorem d_Bread_live_5 : decode m_Bread_live.2.1 5 = .ok (.iconst 0, 1) := by decide +kernel
theorem d_Bread_live_6 : decode m_Bread_live.2.1 6 = .ok (.istore 5, 2) := by decide +kernel
theorem d_Bread_live_8 : decode m_Bread_live.2.1 8 = .ok (.iload 5, 2) := by decide +kernel
theorem d_Bread_live_10 : decode m_Bread_live.2.1 10 = .ok (.iload_n 2, 1) := by decide +kernel
theorem d_Bread_live_11 : decode m_Bread_live.2.1 11 = .ok (.if_icmp .ge 34, 3) := by decide +kernel
theorem d_Bread_live_14 : decode m_Bread_live.2.1 14 = .ok (.bipush 75, 2) := by decide +kernel
theorem d_Bread_live_16 : decode m_Bread_live.2.1 16 = .ok (.iload_n 3, 1) := by decide +kernel
theorem d_Bread_live_17 : decode m_Bread_live.2.1 17 = .ok (.imul, 1) := by decide +kernel
theorem d_Bread_live_18 : decode m_Bread_live.2.1 18 = .ok (.bipush 74, 2) := by decide +kernel
theorem d_Bread_live_20 : decode m_Bread_live.2.1 20 = .ok (.iadd, 1) := by decide +kernel
theorem d_Bread_live_21 : decode m_Bread_live.2.1 21 = .ok (.ldc 60, 2) := by decide +kernel
theorem d_Bread_live_23 : decode m_Bread_live.2.1 23 = .ok (.irem, 1) := by decide +kernel
theorem d_Bread_live_24 : decode m_Bread_live.2.1 24 = .ok (.istore_n 3, 1) := by decide +kernel
theorem d_Bread_live_25 : decode m_Bread_live.2.1 25 = .ok (.aload_n 0, 1) := by decide +kernel
theorem d_Bread_live_26 : decode m_Bread_live.2.1 26 = .ok (.iload_n 3, 1) := by decide +kernel
theorem d_Bread_live_27 : decode m_Bread_live.2.1 27 = .ok (.bipush 6, 2) := by decide +kernel
theorem d_Bread_live_29 : decode m_Bread_live.2.1 29 = .ok (.irem, 1) := by decide +kernel
theorem d_Bread_live_30 : decode m_Bread_live.2.1 30 = .ok (.invokevirtual 61, 3) := by decide +kernel
theorem d_Bread_live_33 : decode m_Bread_live.2.1 33 = .ok (.ifCond .eq 6, 3) := by decide +kernel
theorem d_Bread_live_36 : decode m_Bread_live.2.1 36 = .ok (.iinc 4 1, 3) := by decide +kernel
theorem d_Bread_live_39 : decode m_Bread_live.2.1 39 = .ok (.iinc 5 1, 3) := by decide +kernel
theorem d_Bread_live_42 : decode m_Bread_live.2.1 42 = .ok (.goto (-34), 3) := by decide +kernel
theorem d_Bread_live_45 : decode m_Bread_live.2.1 45 = .ok (.iload 4, 2) := by decide +kernel
theorem d_Bread_live_47 : decode m_Bread_live.2.1 47 = .ok (.ireturn, 1) := by decide +kernel
theorem d_Bread_loavesFor_0 : decode m_Bread_loavesFor.2.1 0 = .ok (.iconst 0, 1) := by decide +kernel
theorem d_Bread_loavesFor_1 : decode m_Bread_loavesFor.2.1 1 = .ok (.istore_n 2, 1) := by decide +kernel
theorem d_Bread_loavesFor_2 : decode m_Bread_loavesFor.2.1 2 = .ok (.iconst 0, 1) := by decide +kernel
theorem d_Bread_loavesFor_3 : decode m_Bread_loavesFor.2.1 3 = .ok (.istore_n 3, 1) := by decide +kernel
theorem d_Bread_loavesFor_4 : decode m_Bread_loavesFor.2.1 4 = .ok (.iload_n 3, 1) := by decide +kernel
theorem d_Bread_loavesFor_5 : decode m_Bread_loavesFor.2.1 5 = .ok (.bipush 6, 2) := by decide +kernel
theorem d_Bread_loavesFor_7 : decode m_Bread_loavesFor.2.1 7 = .ok (.if_icmp .ge 26, 3) := by decide +kernel
theorem d_Bread_loavesFor_10 : decode m_Bread_loavesFor.2.1 10 = .ok (.iload_n 1, 1) := by decide +kernel
theorem d_Bread_loavesFor_11 : decode m_Bread_loavesFor.2.1 11 = .ok (.iload_n 3, 1) := by decide +kernel
theorem d_Bread_loavesFor_12 : decode m_Bread_loavesFor.2.1 12 = .ok (.invokestatic 36, 3) := by decide +kernel
theorem d_Bread_loavesFor_15 : decode m_Bread_loavesFor.2.1 15 = .ok (.ifCond .eq 12, 3) := by decide +kernel
theorem d_Bread_loavesFor_18 : decode m_Bread_loavesFor.2.1 18 = .ok (.iload_n 2, 1) := by decide +kernel
theorem d_Bread_loavesFor_19 : decode m_Bread_loavesFor.2.1 19 = .ok (.aload_n 0, 1) := by decide +kernel
theorem d_Bread_loavesFor_20 : decode m_Bread_loavesFor.2.1 20 = .ok (.getfield 9, 3) := by decide +kernel
theorem d_Bread_loavesFor_23 : decode m_Bread_loavesFor.2.1 23 = .ok (.iload_n 3, 1) := by decide +kernel
theorem d_Bread_loavesFor_24 : decode m_Bread_loavesFor.2.1 24 = .ok (.iaload, 1) := by decide +kernel
theorem d_Bread_loavesFor_25 : decode m_Bread_loavesFor.2.1 25 = .ok (.ior, 1) := by decide +kernel
theorem d_Bread_loavesFor_26 : decode m_Bread_loavesFor.2.1 26 = .ok (.istore_n 2, 1) := by decide +kernel
theorem d_Bread_loavesFor_27 : decode m_Bread_loavesFor.2.1 27 = .ok (.iinc 3 1, 3) := by decide +kernel
theorem d_Bread_loavesFor_30 : decode m_Bread_loavesFor.2.1 30 = .ok (.goto (-26), 3) := by decide +kernel
theorem d_Bread_loavesFor_33 : decode m_Bread_loavesFor.2.1 33 = .ok (.iconst 0, 1) := by decide +kernel
theorem d_Bread_loavesFor_34 : decode m_Bread_loavesFor.2.1 34 = .ok (.istore_n 3, 1) := by decide +kernel
theorem d_Bread_loavesFor_35 : decode m_Bread_loavesFor.2.1 35 = .ok (.iconst 0, 1) := by decide +kernel
theorem d_Bread_loavesFor_36 : decode m_Bread_loavesFor.2.1 36 = .ok (.istore 4, 2) := by decide +kernel
theorem d_Bread_loavesFor_38 : decode m_Bread_loavesFor.2.1 38 = .ok (.iload 4, 2) := by decide +kernel
theorem d_Bread_loavesFor_40 : decode m_Bread_loavesFor.2.1 40 = .ok (.bipush 10, 2) := by decide +kernel
theorem d_Bread_loavesFor_42 : decode m_Bread_loavesFor.2.1 42 = .ok (.if_icmp .ge 28, 3) := by decide +kernel
theorem d_Bread_loavesFor_45 : decode m_Bread_loavesFor.2.1 45 = .ok (.iload_n 2, 1) := by decide +kernel
theorem d_Bread_loavesFor_46 : decode m_Bread_loavesFor.2.1 46 = .ok (.iload 4, 2) := by decide +kernel
theorem d_Bread_loavesFor_48 : decode m_Bread_loavesFor.2.1 48 = .ok (.invokestatic 36, 3) := by decide +kernel
theorem d_Bread_loavesFor_51 : decode m_Bread_loavesFor.2.1 51 = .ok (.ifCond .eq 13, 3) := by decide +kernel
theorem d_Bread_loavesFor_54 : decode m_Bread_loavesFor.2.1 54 = .ok (.iload_n 3, 1) := by decide +kernel
theorem d_Bread_loavesFor_55 : decode m_Bread_loavesFor.2.1 55 = .ok (.aload_n 0, 1) := by decide +kernel
theorem d_Bread_loavesFor_56 : decode m_Bread_loavesFor.2.1 56 = .ok (.getfield 15, 3) := by decide +kernel
theorem d_Bread_loavesFor_59 : decode m_Bread_loavesFor.2.1 59 = .ok (.iload 4, 2) := by decide +kernel
theorem d_Bread_loavesFor_61 : decode m_Bread_loavesFor.2.1 61 = .ok (.iaload, 1) := by decide +kernel
theorem d_Bread_loavesFor_62 : decode m_Bread_loavesFor.2.1 62 = .ok (.iadd, 1) := by decide +kernel
theorem d_Bread_loavesFor_63 : decode m_Bread_loavesFor.2.1 63 = .ok (.istore_n 3, 1) := by decide +kernel
theorem d_Bread_loavesFor_64 : decode m_Bread_loavesFor.2.1 64 = .ok (.iinc 4 1, 3) := by decide +kernel
theorem d_Bread_loavesFor_67 : decode m_Bread_loavesFor.2.1 67 = .ok (.goto (-29), 3) := by decide +kernel
theorem d_Bread_loavesFor_70 : decode m_Bread_loavesFor.2.1 70 = .ok (.iload_n 3, 1) := by decide +kernel
theorem d_Bread_loavesFor_71 : decode m_Bread_loavesFor.2.1 71 = .ok (.ireturn, 1) := by decide +kernel
theorem d_Bread_mostFed_0 : decode m_Bread_mostFed.2.1 0 = .ok (.iconst 0, 1) := by decide +kernel
theorem d_Bread_mostFed_1 : decode m_Bread_mostFed.2.1 1 = .ok (.istore_n 2, 1) := by decide +kernel
theorem d_Bread_mostFed_2 : decode m_Bread_mostFed.2.1 2 = .ok (.iconst 1, 1) := by decide +kernel
theorem d_Bread_mostFed_3 : decode m_Bread_mostFed.2.1 3 = .ok (.istore_n 3, 1) := by decide +kernel
theorem d_Bread_mostFed_4 : decode m_Bread_mostFed.2.1 4 = .ok (.iload_n 3, 1) := by decide +kernel
theorem d_Bread_mostFed_5 : decode m_Bread_mostFed.2.1 5 = .ok (.bipush 63, 2) := by decide +kernel
theorem d_Bread_mostFed_7 : decode m_Bread_mostFed.2.1 7 = .ok (.if_icmp .gt 32, 3) := by decide +kernel
theorem d_Bread_mostFed_10 : decode m_Bread_mostFed.2.1 10 = .ok (.iload_n 3, 1) := by decide +kernel
theorem d_Bread_mostFed_11 : decode m_Bread_mostFed.2.1 11 = .ok (.iload_n 1, 1) := by decide +kernel
theorem d_Bread_mostFed_12 : decode m_Bread_mostFed.2.1 12 = .ok (.iconst (-1), 1) := by decide +kernel
theorem d_Bread_mostFed_13 : decode m_Bread_mostFed.2.1 13 = .ok (.ixor, 1) := by decide +kernel
theorem d_Bread_mostFed_14 : decode m_Bread_mostFed.2.1 14 = .ok (.iand, 1) := by decide +kernel
theorem d_Bread_mostFed_15 : decode m_Bread_mostFed.2.1 15 = .ok (.ifCond .ne 18, 3) := by decide +kernel
theorem d_Bread_mostFed_18 : decode m_Bread_mostFed.2.1 18 = .ok (.iload_n 2, 1) := by decide +kernel
theorem d_Bread_mostFed_19 : decode m_Bread_mostFed.2.1 19 = .ok (.iload_n 3, 1) := by decide +kernel
theorem d_Bread_mostFed_20 : decode m_Bread_mostFed.2.1 20 = .ok (.invokestatic 40, 3) := by decide +kernel
theorem d_Bread_mostFed_23 : decode m_Bread_mostFed.2.1 23 = .ok (.aload_n 0, 1) := by decide +kernel
theorem d_Bread_mostFed_24 : decode m_Bread_mostFed.2.1 24 = .ok (.iload_n 3, 1) := by decide +kernel
theorem d_Bread_mostFed_25 : decode m_Bread_mostFed.2.1 25 = .ok (.invokevirtual 45, 3) := by decide +kernel
theorem d_Bread_mostFed_28 : decode m_Bread_mostFed.2.1 28 = .ok (.isub, 1) := by decide +kernel
theorem d_Bread_mostFed_29 : decode m_Bread_mostFed.2.1 29 = .ok (.invokestatic 48, 3) := by decide +kernel
theorem d_Bread_mostFed_32 : decode m_Bread_mostFed.2.1 32 = .ok (.istore_n 2, 1) := by decide +kernel
theorem d_Bread_mostFed_33 : decode m_Bread_mostFed.2.1 33 = .ok (.iinc 3 1, 3) := by decide +kernel
theorem d_Bread_mostFed_36 : decode m_Bread_mostFed.2.1 36 = .ok (.goto (-32), 3) := by decide +kernel
theorem d_Bread_mostFed_39 : decode m_Bread_mostFed.2.1 39 = .ok (.iload_n 1, 1) := by decide +kernel
theorem d_Bread_mostFed_40 : decode m_Bread_mostFed.2.1 40 = .ok (.invokestatic 40, 3) := by decide +kernel
theorem d_Bread_mostFed_43 : decode m_Bread_mostFed.2.1 43 = .ok (.iload_n 2, 1) := by decide +kernel
theorem d_Bread_mostFed_44 : decode m_Bread_mostFed.2.1 44 = .ok (.isub, 1) := by decide +kernel
theorem d_Bread_mostFed_45 : decode m_Bread_mostFed.2.1 45 = .ok (.ireturn, 1) := by decide +kernel
theorem d_Bread_serve_0 : decode m_Bread_serve.2.1 0 = .ok (.aload_n 0, 1) := by decide +kernel
theorem d_Bread_serve_1 : decode m_Bread_serve.2.1 1 = .ok (.bipush 63, 2) := by decide +kernel
theorem d_Bread_serve_3 : decode m_Bread_serve.2.1 3 = .ok (.invokevirtual 54, 3) := by decide +kernel
theorem d_Bread_serve_6 : decode m_Bread_serve.2.1 6 = .ok (.istore_n 1, 1) := by decide +kernel
theorem d_Bread_serve_7 : decode m_Bread_serve.2.1 7 = .ok (.iload_n 1, 1) := by decide +kernel
theorem d_Bread_serve_8 : decode m_Bread_serve.2.1 8 = .ok (.istore_n 2, 1) := by decide +kernel
theorem d_Bread_serve_9 : decode m_Bread_serve.2.1 9 = .ok (.iconst 0, 1) := by decide +kernel
theorem d_Bread_serve_10 : decode m_Bread_serve.2.1 10 = .ok (.istore_n 3, 1) := by decide +kernel
theorem d_Bread_serve_11 : decode m_Bread_serve.2.1 11 = .ok (.iload_n 3, 1) := by decide +kernel
theorem d_Bread_serve_12 : decode m_Bread_serve.2.1 12 = .ok (.bipush 6, 2) := by decide +kernel
theorem d_Bread_serve_14 : decode m_Bread_serve.2.1 14 = .ok (.if_icmp .ge 35, 3) := by decide +kernel
theorem d_Bread_serve_17 : decode m_Bread_serve.2.1 17 = .ok (.aload_n 0, 1) := by decide +kernel
theorem d_Bread_serve_18 : decode m_Bread_serve.2.1 18 = .ok (.getfield 18, 3) := by decide +kernel
theorem d_Bread_serve_21 : decode m_Bread_serve.2.1 21 = .ok (.iload_n 3, 1) := by decide +kernel
theorem d_Bread_serve_22 : decode m_Bread_serve.2.1 22 = .ok (.aload_n 0, 1) := by decide +kernel
theorem d_Bread_serve_23 : decode m_Bread_serve.2.1 23 = .ok (.iload_n 3, 1) := by decide +kernel
theorem d_Bread_serve_24 : decode m_Bread_serve.2.1 24 = .ok (.iload_n 2, 1) := by decide +kernel
theorem d_Bread_serve_25 : decode m_Bread_serve.2.1 25 = .ok (.invokevirtual 57, 3) := by decide +kernel
theorem d_Bread_serve_28 : decode m_Bread_serve.2.1 28 = .ok (.iastore, 1) := by decide +kernel
theorem d_Bread_serve_29 : decode m_Bread_serve.2.1 29 = .ok (.aload_n 0, 1) := by decide +kernel
theorem d_Bread_serve_30 : decode m_Bread_serve.2.1 30 = .ok (.getfield 18, 3) := by decide +kernel
theorem d_Bread_serve_33 : decode m_Bread_serve.2.1 33 = .ok (.iload_n 3, 1) := by decide +kernel
theorem d_Bread_serve_34 : decode m_Bread_serve.2.1 34 = .ok (.iaload, 1) := by decide +kernel
theorem d_Bread_serve_35 : decode m_Bread_serve.2.1 35 = .ok (.bipush (-6), 2) := by decide +kernel
theorem d_Bread_serve_37 : decode m_Bread_serve.2.1 37 = .ok (.if_icmp .eq 6, 3) := by decide +kernel
theorem d_Bread_serve_40 : decode m_Bread_serve.2.1 40 = .ok (.iinc 2 (-1), 3) := by decide +kernel
theorem d_Bread_serve_43 : decode m_Bread_serve.2.1 43 = .ok (.iinc 3 1, 3) := by decide +kernel
theorem d_Bread_serve_46 : decode m_Bread_serve.2.1 46 = .ok (.goto (-35), 3) := by decide +kernel
theorem d_Bread_serve_49 : decode m_Bread_serve.2.1 49 = .ok (.iload_n 1, 1) := by decide +kernel
theorem d_Bread_serve_50 : decode m_Bread_serve.2.1 50 = .ok (.ireturn, 1) := by decide +kernel
theorem d_Bread_takeLeastMeal_0 : decode m_Bread_takeLeastMeal.2.1 0 = .ok (.bipush 63, 2) := by decide +kernel
theorem d_Bread_takeLeastMeal_2 : decode m_Bread_takeLeastMeal.2.1 2 = .ok (.iconst 2, 1) := by decide +kernel
theorem d_Bread_takeLeastMeal_3 : decode m_Bread_takeLeastMeal.2.1 3 = .ok (.iload_n 1, 1) := by decide +kernel
theorem d_Bread_takeLeastMeal_4 : decode m_Bread_takeLeastMeal.2.1 4 = .ok (.ishl, 1) := by decide +kernel
theorem d_Bread_takeLeastMeal_5 : decode m_Bread_takeLeastMeal.2.1 5 = .ok (.ineg, 1) := by decide +kernel
theorem d_Bread_takeLeastMeal_6 : decode m_Bread_takeLeastMeal.2.1 6 = .ok (.iand, 1) := by decide +kernel
theorem d_Bread_takeLeastMeal_7 : decode m_Bread_takeLeastMeal.2.1 7 = .ok (.istore_n 3, 1) := by decide +kernel
theorem d_Bread_takeLeastMeal_8 : decode m_Bread_takeLeastMeal.2.1 8 = .ok (.iconst 0, 1) := by decide +kernel
theorem d_Bread_takeLeastMeal_9 : decode m_Bread_takeLeastMeal.2.1 9 = .ok (.istore 4, 2) := by decide +kernel
theorem d_Bread_takeLeastMeal_11 : decode m_Bread_takeLeastMeal.2.1 11 = .ok (.iload 4, 2) := by decide +kernel
theorem d_Bread_takeLeastMeal_13 : decode m_Bread_takeLeastMeal.2.1 13 = .ok (.bipush 10, 2) := by decide +kernel
theorem d_Bread_takeLeastMeal_15 : decode m_Bread_takeLeastMeal.2.1 15 = .ok (.if_icmp .ge 69, 3) := by decide +kernel
theorem d_Bread_takeLeastMeal_18 : decode m_Bread_takeLeastMeal.2.1 18 = .ok (.aload_n 0, 1) := by decide +kernel
theorem d_Bread_takeLeastMeal_19 : decode m_Bread_takeLeastMeal.2.1 19 = .ok (.getfield 9, 3) := by decide +kernel
theorem d_Bread_takeLeastMeal_22 : decode m_Bread_takeLeastMeal.2.1 22 = .ok (.iload_n 1, 1) := by decide +kernel
theorem d_Bread_takeLeastMeal_23 : decode m_Bread_takeLeastMeal.2.1 23 = .ok (.iaload, 1) := by decide +kernel
theorem d_Bread_takeLeastMeal_24 : decode m_Bread_takeLeastMeal.2.1 24 = .ok (.iload 4, 2) := by decide +kernel
theorem d_Bread_takeLeastMeal_26 : decode m_Bread_takeLeastMeal.2.1 26 = .ok (.invokestatic 36, 3) := by decide +kernel
theorem d_Bread_takeLeastMeal_29 : decode m_Bread_takeLeastMeal.2.1 29 = .ok (.ifCond .eq 49, 3) := by decide +kernel
theorem d_Bread_takeLeastMeal_32 : decode m_Bread_takeLeastMeal.2.1 32 = .ok (.aload_n 0, 1) := by decide +kernel
theorem d_Bread_takeLeastMeal_33 : decode m_Bread_takeLeastMeal.2.1 33 = .ok (.getfield 15, 3) := by decide +kernel
theorem d_Bread_takeLeastMeal_36 : decode m_Bread_takeLeastMeal.2.1 36 = .ok (.iload 4, 2) := by decide +kernel
theorem d_Bread_takeLeastMeal_38 : decode m_Bread_takeLeastMeal.2.1 38 = .ok (.iaload, 1) := by decide +kernel
theorem d_Bread_takeLeastMeal_39 : decode m_Bread_takeLeastMeal.2.1 39 = .ok (.ifCond .le 39, 3) := by decide +kernel
theorem d_Bread_takeLeastMeal_42 : decode m_Bread_takeLeastMeal.2.1 42 = .ok (.aload_n 0, 1) := by decide +kernel
theorem d_Bread_takeLeastMeal_43 : decode m_Bread_takeLeastMeal.2.1 43 = .ok (.getfield 15, 3) := by decide +kernel
theorem d_Bread_takeLeastMeal_46 : decode m_Bread_takeLeastMeal.2.1 46 = .ok (.iload 4, 2) := by decide +kernel
theorem d_Bread_takeLeastMeal_48 : decode m_Bread_takeLeastMeal.2.1 48 = .ok (.dup2, 1) := by decide +kernel
theorem d_Bread_takeLeastMeal_49 : decode m_Bread_takeLeastMeal.2.1 49 = .ok (.iaload, 1) := by decide +kernel
theorem d_Bread_takeLeastMeal_50 : decode m_Bread_takeLeastMeal.2.1 50 = .ok (.iconst 1, 1) := by decide +kernel
theorem d_Bread_takeLeastMeal_51 : decode m_Bread_takeLeastMeal.2.1 51 = .ok (.isub, 1) := by decide +kernel
theorem d_Bread_takeLeastMeal_52 : decode m_Bread_takeLeastMeal.2.1 52 = .ok (.iastore, 1) := by decide +kernel
theorem d_Bread_takeLeastMeal_53 : decode m_Bread_takeLeastMeal.2.1 53 = .ok (.iconst 1, 1) := by decide +kernel
theorem d_Bread_takeLeastMeal_54 : decode m_Bread_takeLeastMeal.2.1 54 = .ok (.aload_n 0, 1) := by decide +kernel
theorem d_Bread_takeLeastMeal_55 : decode m_Bread_takeLeastMeal.2.1 55 = .ok (.iload_n 3, 1) := by decide +kernel
theorem d_Bread_takeLeastMeal_56 : decode m_Bread_takeLeastMeal.2.1 56 = .ok (.invokevirtual 54, 3) := by decide +kernel
theorem d_Bread_takeLeastMeal_59 : decode m_Bread_takeLeastMeal.2.1 59 = .ok (.iadd, 1) := by decide +kernel
theorem d_Bread_takeLeastMeal_60 : decode m_Bread_takeLeastMeal.2.1 60 = .ok (.iload_n 2, 1) := by decide +kernel
theorem d_Bread_takeLeastMeal_61 : decode m_Bread_takeLeastMeal.2.1 61 = .ok (.if_icmp .ne 6, 3) := by decide +kernel
theorem d_Bread_takeLeastMeal_64 : decode m_Bread_takeLeastMeal.2.1 64 = .ok (.iload 4, 2) := by decide +kernel
theorem d_Bread_takeLeastMeal_66 : decode m_Bread_takeLeastMeal.2.1 66 = .ok (.ireturn, 1) := by decide +kernel
theorem d_Bread_takeLeastMeal_67 : decode m_Bread_takeLeastMeal.2.1 67 = .ok (.aload_n 0, 1) := by decide +kernel
theorem d_Bread_takeLeastMeal_68 : decode m_Bread_takeLeastMeal.2.1 68 = .ok (.getfield 15, 3) := by decide +kernel
theorem d_Bread_takeLeastMeal_71 : decode m_Bread_takeLeastMeal.2.1 71 = .ok (.iload 4, 2) := by decide +kernel
theorem d_Bread_takeLeastMeal_73 : decode m_Bread_takeLeastMeal.2.1 73 = .ok (.dup2, 1) := by decide +kernel
theorem d_Bread_takeLeastMeal_74 : decode m_Bread_takeLeastMeal.2.1 74 = .ok (.iaload, 1) := by decide +kernel
theorem d_Bread_takeLeastMeal_75 : decode m_Bread_takeLeastMeal.2.1 75 = .ok (.iconst 1, 1) := by decide +kernel
theorem d_Bread_takeLeastMeal_76 : decode m_Bread_takeLeastMeal.2.1 76 = .ok (.iadd, 1) := by decide +kernel
theorem d_Bread_takeLeastMeal_77 : decode m_Bread_takeLeastMeal.2.1 77 = .ok (.iastore, 1) := by decide +kernel
theorem d_Bread_takeLeastMeal_78 : decode m_Bread_takeLeastMeal.2.1 78 = .ok (.iinc 4 1, 3) := by decide +kernel
theorem d_Bread_takeLeastMeal_81 : decode m_Bread_takeLeastMeal.2.1 81 = .ok (.goto (-70), 3) := by decide +kernel
theorem d_Bread_takeLeastMeal_84 : decode m_Bread_takeLeastMeal.2.1 84 = .ok (.bipush (-6), 2) := by decide +kernel
theorem d_Bread_takeLeastMeal_86 : decode m_Bread_takeLeastMeal.2.1 86 = .ok (.ireturn, 1) := by decide +kernel
theorem d_Filling_applySight_0 : decode m_Filling_applySight.2.1 0 = .ok (.aload_n 3, 1) := by decide +kernel
theorem d_Filling_applySight_1 : decode m_Filling_applySight.2.1 1 = .ok (.iload_n 1, 1) := by decide +kernel
theorem d_Filling_applySight_2 : decode m_Filling_applySight.2.1 2 = .ok (.invokevirtual 67, 3) := by decide +kernel
theorem d_Filling_applySight_5 : decode m_Filling_applySight.2.1 5 = .ok (.iload_n 2, 1) := by decide +kernel
theorem d_Filling_applySight_6 : decode m_Filling_applySight.2.1 6 = .ok (.iand, 1) := by decide +kernel
theorem d_Filling_applySight_7 : decode m_Filling_applySight.2.1 7 = .ok (.ifCond .eq 8, 3) := by decide +kernel
theorem d_Filling_applySight_10 : decode m_Filling_applySight.2.1 10 = .ok (.aload_n 0, 1) := by decide +kernel
theorem d_Filling_applySight_11 : decode m_Filling_applySight.2.1 11 = .ok (.iconst 0, 1) := by decide +kernel
theorem d_Filling_applySight_12 : decode m_Filling_applySight.2.1 12 = .ok (.putfield 28, 3) := by decide +kernel
theorem d_Filling_applySight_15 : decode m_Filling_applySight.2.1 15 = .ok (.iconst 0, 1) := by decide +kernel
theorem d_Filling_applySight_16 : decode m_Filling_applySight.2.1 16 = .ok (.istore 4, 2) := by decide +kernel
theorem d_Filling_applySight_18 : decode m_Filling_applySight.2.1 18 = .ok (.iload 4, 2) := by decide +kernel
theorem d_Filling_applySight_20 : decode m_Filling_applySight.2.1 20 = .ok (.aload_n 0, 1) := by decide +kernel
theorem d_Filling_applySight_21 : decode m_Filling_applySight.2.1 21 = .ok (.getfield 53, 3) := by decide +kernel
theorem d_Filling_applySight_24 : decode m_Filling_applySight.2.1 24 = .ok (.if_icmp .ge 36, 3) := by decide +kernel
theorem d_Filling_applySight_27 : decode m_Filling_applySight.2.1 27 = .ok (.iload_n 1, 1) := by decide +kernel
theorem d_Filling_applySight_28 : decode m_Filling_applySight.2.1 28 = .ok (.aload_n 0, 1) := by decide +kernel
theorem d_Filling_applySight_29 : decode m_Filling_applySight.2.1 29 = .ok (.getfield 9, 3) := by decide +kernel
theorem d_Filling_applySight_32 : decode m_Filling_applySight.2.1 32 = .ok (.iload 4, 2) := by decide +kernel
theorem d_Filling_applySight_34 : decode m_Filling_applySight.2.1 34 = .ok (.iaload, 1) := by decide +kernel
theorem d_Filling_applySight_35 : decode m_Filling_applySight.2.1 35 = .ok (.invokestatic 70, 3) := by decide +kernel
theorem d_Filling_applySight_38 : decode m_Filling_applySight.2.1 38 = .ok (.ifCond .eq 16, 3) := by decide +kernel
theorem d_Filling_applySight_41 : decode m_Filling_applySight.2.1 41 = .ok (.aload_n 0, 1) := by decide +kernel
theorem d_Filling_applySight_42 : decode m_Filling_applySight.2.1 42 = .ok (.getfield 15, 3) := by decide +kernel
theorem d_Filling_applySight_45 : decode m_Filling_applySight.2.1 45 = .ok (.iload 4, 2) := by decide +kernel
theorem d_Filling_applySight_47 : decode m_Filling_applySight.2.1 47 = .ok (.dup2, 1) := by decide +kernel
theorem d_Filling_applySight_48 : decode m_Filling_applySight.2.1 48 = .ok (.iaload, 1) := by decide +kernel
theorem d_Filling_applySight_49 : decode m_Filling_applySight.2.1 49 = .ok (.iload_n 2, 1) := by decide +kernel
theorem d_Filling_applySight_50 : decode m_Filling_applySight.2.1 50 = .ok (.iconst (-1), 1) := by decide +kernel
theorem d_Filling_applySight_51 : decode m_Filling_applySight.2.1 51 = .ok (.ixor, 1) := by decide +kernel
theorem d_Filling_applySight_52 : decode m_Filling_applySight.2.1 52 = .ok (.iand, 1) := by decide +kernel
theorem d_Filling_applySight_53 : decode m_Filling_applySight.2.1 53 = .ok (.iastore, 1) := by decide +kernel
theorem d_Filling_applySight_54 : decode m_Filling_applySight.2.1 54 = .ok (.iinc 4 1, 3) := by decide +kernel
theorem d_Filling_applySight_57 : decode m_Filling_applySight.2.1 57 = .ok (.goto (-39), 3) := by decide +kernel
theorem d_Filling_applySight_60 : decode m_Filling_applySight.2.1 60 = .ok (.return_, 1) := by decide +kernel
theorem d_Filling_barredInAll_0 : decode m_Filling_barredInAll.2.1 0 = .ok (.aload_n 1, 1) := by decide +kernel
theorem d_Filling_barredInAll_1 : decode m_Filling_barredInAll.2.1 1 = .ok (.iload_n 2, 1) := by decide +kernel
theorem d_Filling_barredInAll_2 : decode m_Filling_barredInAll.2.1 2 = .ok (.invokevirtual 39, 3) := by decide +kernel
theorem d_Filling_barredInAll_5 : decode m_Filling_barredInAll.2.1 5 = .ok (.istore_n 3, 1) := by decide +kernel
theorem d_Filling_barredInAll_6 : decode m_Filling_barredInAll.2.1 6 = .ok (.aload_n 1, 1) := by decide +kernel
theorem d_Filling_barredInAll_7 : decode m_Filling_barredInAll.2.1 7 = .ok (.getfield 18, 3) := by decide +kernel
theorem d_Filling_barredInAll_10 : decode m_Filling_barredInAll.2.1 10 = .ok (.iload_n 3, 1) := by decide +kernel
theorem d_Filling_barredInAll_11 : decode m_Filling_barredInAll.2.1 11 = .ok (.invokevirtual 67, 3) := by decide +kernel
theorem d_Filling_barredInAll_14 : decode m_Filling_barredInAll.2.1 14 = .ok (.istore 4, 2) := by decide +kernel
theorem d_Filling_barredInAll_16 : decode m_Filling_barredInAll.2.1 16 = .ok (.iconst 0, 1) := by decide +kernel
theorem d_Filling_barredInAll_17 : decode m_Filling_barredInAll.2.1 17 = .ok (.istore 5, 2) := by decide +kernel
theorem d_Filling_barredInAll_19 : decode m_Filling_barredInAll.2.1 19 = .ok (.iconst 0, 1) := by decide +kernel
theorem d_Filling_barredInAll_20 : decode m_Filling_barredInAll.2.1 20 = .ok (.istore 6, 2) := by decide +kernel
theorem d_Filling_barredInAll_22 : decode m_Filling_barredInAll.2.1 22 = .ok (.iload 6, 2) := by decide +kernel
theorem d_Filling_barredInAll_24 : decode m_Filling_barredInAll.2.1 24 = .ok (.bipush 6, 2) := by decide +kernel
theorem d_Filling_barredInAll_26 : decode m_Filling_barredInAll.2.1 26 = .ok (.if_icmp .ge 44, 3) := by decide +kernel
theorem d_Filling_barredInAll_29 : decode m_Filling_barredInAll.2.1 29 = .ok (.aload_n 1, 1) := by decide +kernel
theorem d_Filling_barredInAll_30 : decode m_Filling_barredInAll.2.1 30 = .ok (.iload 6, 2) := by decide +kernel
theorem d_Filling_barredInAll_32 : decode m_Filling_barredInAll.2.1 32 = .ok (.invokevirtual 46, 3) := by decide +kernel
theorem d_Filling_barredInAll_35 : decode m_Filling_barredInAll.2.1 35 = .ok (.istore 7, 2) := by decide +kernel
theorem d_Filling_barredInAll_37 : decode m_Filling_barredInAll.2.1 37 = .ok (.iload 4, 2) := by decide +kernel
theorem d_Filling_barredInAll_39 : decode m_Filling_barredInAll.2.1 39 = .ok (.iload 7, 2) := by decide +kernel
theorem d_Filling_barredInAll_41 : decode m_Filling_barredInAll.2.1 41 = .ok (.iand, 1) := by decide +kernel
theorem d_Filling_barredInAll_42 : decode m_Filling_barredInAll.2.1 42 = .ok (.ifCond .ne 13, 3) := by decide +kernel
theorem d_Filling_barredInAll_45 : decode m_Filling_barredInAll.2.1 45 = .ok (.aload_n 0, 1) := by decide +kernel
theorem d_Filling_barredInAll_46 : decode m_Filling_barredInAll.2.1 46 = .ok (.iload_n 3, 1) := by decide +kernel
theorem d_Filling_barredInAll_47 : decode m_Filling_barredInAll.2.1 47 = .ok (.iload 7, 2) := by decide +kernel
theorem d_Filling_barredInAll_49 : decode m_Filling_barredInAll.2.1 49 = .ok (.invokevirtual 86, 3) := by decide +kernel
theorem d_Filling_barredInAll_52 : decode m_Filling_barredInAll.2.1 52 = .ok (.ifCond .eq 12, 3) := by decide +kernel
theorem d_Filling_barredInAll_55 : decode m_Filling_barredInAll.2.1 55 = .ok (.iload 5, 2) := by decide +kernel
theorem d_Filling_barredInAll_57 : decode m_Filling_barredInAll.2.1 57 = .ok (.iconst 1, 1) := by decide +kernel
theorem d_Filling_barredInAll_58 : decode m_Filling_barredInAll.2.1 58 = .ok (.iload 6, 2) := by decide +kernel
theorem d_Filling_barredInAll_60 : decode m_Filling_barredInAll.2.1 60 = .ok (.ishl, 1) := by decide +kernel
theorem d_Filling_barredInAll_61 : decode m_Filling_barredInAll.2.1 61 = .ok (.ior, 1) := by decide +kernel
theorem d_Filling_barredInAll_62 : decode m_Filling_barredInAll.2.1 62 = .ok (.istore 5, 2) := by decide +kernel
theorem d_Filling_barredInAll_64 : decode m_Filling_barredInAll.2.1 64 = .ok (.iinc 6 1, 3) := by decide +kernel
theorem d_Filling_barredInAll_67 : decode m_Filling_barredInAll.2.1 67 = .ok (.goto (-45), 3) := by decide +kernel
theorem d_Filling_barredInAll_70 : decode m_Filling_barredInAll.2.1 70 = .ok (.iload 5, 2) := by decide +kernel
theorem d_Filling_barredInAll_72 : decode m_Filling_barredInAll.2.1 72 = .ok (.ireturn, 1) := by decide +kernel
theorem d_Filling_barredInSome_0 : decode m_Filling_barredInSome.2.1 0 = .ok (.aload_n 1, 1) := by decide +kernel
theorem d_Filling_barredInSome_1 : decode m_Filling_barredInSome.2.1 1 = .ok (.iload_n 2, 1) := by decide +kernel
theorem d_Filling_barredInSome_2 : decode m_Filling_barredInSome.2.1 2 = .ok (.invokevirtual 39, 3) := by decide +kernel
theorem d_Filling_barredInSome_5 : decode m_Filling_barredInSome.2.1 5 = .ok (.istore_n 3, 1) := by decide +kernel
theorem d_Filling_barredInSome_6 : decode m_Filling_barredInSome.2.1 6 = .ok (.aload_n 1, 1) := by decide +kernel
theorem d_Filling_barredInSome_7 : decode m_Filling_barredInSome.2.1 7 = .ok (.getfield 18, 3) := by decide +kernel
theorem d_Filling_barredInSome_10 : decode m_Filling_barredInSome.2.1 10 = .ok (.iload_n 3, 1) := by decide +kernel
theorem d_Filling_barredInSome_11 : decode m_Filling_barredInSome.2.1 11 = .ok (.invokevirtual 67, 3) := by decide +kernel
theorem d_Filling_barredInSome_14 : decode m_Filling_barredInSome.2.1 14 = .ok (.istore 4, 2) := by decide +kernel
theorem d_Filling_barredInSome_16 : decode m_Filling_barredInSome.2.1 16 = .ok (.iconst 0, 1) := by decide +kernel
theorem d_Filling_barredInSome_17 : decode m_Filling_barredInSome.2.1 17 = .ok (.istore 5, 2) := by decide +kernel
theorem d_Filling_barredInSome_19 : decode m_Filling_barredInSome.2.1 19 = .ok (.iload 5, 2) := by decide +kernel
theorem d_Filling_barredInSome_21 : decode m_Filling_barredInSome.2.1 21 = .ok (.aload_n 0, 1) := by decide +kernel
theorem d_Filling_barredInSome_22 : decode m_Filling_barredInSome.2.1 22 = .ok (.getfield 53, 3) := by decide +kernel
theorem d_Filling_barredInSome_25 : decode m_Filling_barredInSome.2.1 25 = .ok (.if_icmp .ge 35, 3) := by decide +kernel
theorem d_Filling_barredInSome_28 : decode m_Filling_barredInSome.2.1 28 = .ok (.iload_n 3, 1) := by decide +kernel
theorem d_Filling_barredInSome_29 : decode m_Filling_barredInSome.2.1 29 = .ok (.aload_n 0, 1) := by decide +kernel
theorem d_Filling_barredInSome_30 : decode m_Filling_barredInSome.2.1 30 = .ok (.getfield 9, 3) := by decide +kernel
theorem d_Filling_barredInSome_33 : decode m_Filling_barredInSome.2.1 33 = .ok (.iload 5, 2) := by decide +kernel
theorem d_Filling_barredInSome_35 : decode m_Filling_barredInSome.2.1 35 = .ok (.iaload, 1) := by decide +kernel
theorem d_Filling_barredInSome_36 : decode m_Filling_barredInSome.2.1 36 = .ok (.invokestatic 70, 3) := by decide +kernel
theorem d_Filling_barredInSome_39 : decode m_Filling_barredInSome.2.1 39 = .ok (.ifCond .eq 15, 3) := by decide +kernel
theorem d_Filling_barredInSome_42 : decode m_Filling_barredInSome.2.1 42 = .ok (.iload 4, 2) := by decide +kernel
theorem d_Filling_barredInSome_44 : decode m_Filling_barredInSome.2.1 44 = .ok (.aload_n 0, 1) := by decide +kernel
theorem d_Filling_barredInSome_45 : decode m_Filling_barredInSome.2.1 45 = .ok (.getfield 15, 3) := by decide +kernel
theorem d_Filling_barredInSome_48 : decode m_Filling_barredInSome.2.1 48 = .ok (.iload 5, 2) := by decide +kernel
theorem d_Filling_barredInSome_50 : decode m_Filling_barredInSome.2.1 50 = .ok (.iaload, 1) := by decide +kernel
theorem d_Filling_barredInSome_51 : decode m_Filling_barredInSome.2.1 51 = .ok (.ior, 1) := by decide +kernel
theorem d_Filling_barredInSome_52 : decode m_Filling_barredInSome.2.1 52 = .ok (.istore 4, 2) := by decide +kernel
theorem d_Filling_barredInSome_54 : decode m_Filling_barredInSome.2.1 54 = .ok (.iinc 5 1, 3) := by decide +kernel
theorem d_Filling_barredInSome_57 : decode m_Filling_barredInSome.2.1 57 = .ok (.goto (-38), 3) := by decide +kernel
theorem d_Filling_barredInSome_60 : decode m_Filling_barredInSome.2.1 60 = .ok (.aload_n 1, 1) := by decide +kernel
theorem d_Filling_barredInSome_61 : decode m_Filling_barredInSome.2.1 61 = .ok (.iload 4, 2) := by decide +kernel
theorem d_Filling_barredInSome_63 : decode m_Filling_barredInSome.2.1 63 = .ok (.invokevirtual 89, 3) := by decide +kernel
theorem d_Filling_barredInSome_66 : decode m_Filling_barredInSome.2.1 66 = .ok (.ireturn, 1) := by decide +kernel
theorem d_Filling_findAsks_0 : decode m_Filling_findAsks.2.1 0 = .ok (.aload_n 0, 1) := by decide +kernel
theorem d_Filling_findAsks_1 : decode m_Filling_findAsks.2.1 1 = .ok (.iconst 0, 1) := by decide +kernel
theorem d_Filling_findAsks_2 : decode m_Filling_findAsks.2.1 2 = .ok (.putfield 53, 3) := by decide +kernel
theorem d_Filling_findAsks_5 : decode m_Filling_findAsks.2.1 5 = .ok (.iconst 0, 1) := by decide +kernel
theorem d_Filling_findAsks_6 : decode m_Filling_findAsks.2.1 6 = .ok (.istore_n 2, 1) := by decide +kernel
theorem d_Filling_findAsks_7 : decode m_Filling_findAsks.2.1 7 = .ok (.iload_n 2, 1) := by decide +kernel
theorem d_Filling_findAsks_8 : decode m_Filling_findAsks.2.1 8 = .ok (.aload_n 1, 1) := by decide +kernel
theorem d_Filling_findAsks_9 : decode m_Filling_findAsks.2.1 9 = .ok (.getfield 56, 3) := by decide +kernel
theorem d_Filling_findAsks_12 : decode m_Filling_findAsks.2.1 12 = .ok (.if_icmp .ge 67, 3) := by decide +kernel
theorem d_Filling_findAsks_15 : decode m_Filling_findAsks.2.1 15 = .ok (.aload_n 1, 1) := by decide +kernel
theorem d_Filling_findAsks_16 : decode m_Filling_findAsks.2.1 16 = .ok (.getfield 61, 3) := by decide +kernel
theorem d_Filling_findAsks_19 : decode m_Filling_findAsks.2.1 19 = .ok (.iload_n 2, 1) := by decide +kernel
theorem d_Filling_findAsks_20 : decode m_Filling_findAsks.2.1 20 = .ok (.iaload, 1) := by decide +kernel
theorem d_Filling_findAsks_21 : decode m_Filling_findAsks.2.1 21 = .ok (.iconst 1, 1) := by decide +kernel
theorem d_Filling_findAsks_22 : decode m_Filling_findAsks.2.1 22 = .ok (.if_icmp .ne 51, 3) := by decide +kernel
theorem d_Filling_findAsks_25 : decode m_Filling_findAsks.2.1 25 = .ok (.aload_n 0, 1) := by decide +kernel
theorem d_Filling_findAsks_26 : decode m_Filling_findAsks.2.1 26 = .ok (.getfield 53, 3) := by decide +kernel
theorem d_Filling_findAsks_29 : decode m_Filling_findAsks.2.1 29 = .ok (.iconst 4, 1) := by decide +kernel
theorem d_Filling_findAsks_30 : decode m_Filling_findAsks.2.1 30 = .ok (.if_icmp .ge 43, 3) := by decide +kernel
theorem d_Filling_findAsks_33 : decode m_Filling_findAsks.2.1 33 = .ok (.aload_n 0, 1) := by decide +kernel
theorem d_Filling_findAsks_34 : decode m_Filling_findAsks.2.1 34 = .ok (.getfield 9, 3) := by decide +kernel
theorem d_Filling_findAsks_37 : decode m_Filling_findAsks.2.1 37 = .ok (.aload_n 0, 1) := by decide +kernel
theorem d_Filling_findAsks_38 : decode m_Filling_findAsks.2.1 38 = .ok (.getfield 53, 3) := by decide +kernel
theorem d_Filling_findAsks_41 : decode m_Filling_findAsks.2.1 41 = .ok (.iload_n 2, 1) := by decide +kernel
theorem d_Filling_findAsks_42 : decode m_Filling_findAsks.2.1 42 = .ok (.iastore, 1) := by decide +kernel
theorem d_Filling_findAsks_43 : decode m_Filling_findAsks.2.1 43 = .ok (.aload_n 0, 1) := by decide +kernel
theorem d_Filling_findAsks_44 : decode m_Filling_findAsks.2.1 44 = .ok (.getfield 15, 3) := by decide +kernel
theorem d_Filling_findAsks_47 : decode m_Filling_findAsks.2.1 47 = .ok (.aload_n 0, 1) := by decide +kernel
theorem d_Filling_findAsks_48 : decode m_Filling_findAsks.2.1 48 = .ok (.getfield 53, 3) := by decide +kernel
theorem d_Filling_findAsks_51 : decode m_Filling_findAsks.2.1 51 = .ok (.bipush 63, 2) := by decide +kernel
theorem d_Filling_findAsks_53 : decode m_Filling_findAsks.2.1 53 = .ok (.aload_n 1, 1) := by decide +kernel
theorem d_Filling_findAsks_54 : decode m_Filling_findAsks.2.1 54 = .ok (.getfield 64, 3) := by decide +kernel
theorem d_Filling_findAsks_57 : decode m_Filling_findAsks.2.1 57 = .ok (.iload_n 2, 1) := by decide +kernel
theorem d_Filling_findAsks_58 : decode m_Filling_findAsks.2.1 58 = .ok (.iaload, 1) := by decide +kernel
theorem d_Filling_findAsks_59 : decode m_Filling_findAsks.2.1 59 = .ok (.iconst (-1), 1) := by decide +kernel
theorem d_Filling_findAsks_60 : decode m_Filling_findAsks.2.1 60 = .ok (.ixor, 1) := by decide +kernel
theorem d_Filling_findAsks_61 : decode m_Filling_findAsks.2.1 61 = .ok (.iand, 1) := by decide +kernel
theorem d_Filling_findAsks_62 : decode m_Filling_findAsks.2.1 62 = .ok (.iastore, 1) := by decide +kernel
theorem d_Filling_findAsks_63 : decode m_Filling_findAsks.2.1 63 = .ok (.aload_n 0, 1) := by decide +kernel
theorem d_Filling_findAsks_64 : decode m_Filling_findAsks.2.1 64 = .ok (.dup, 1) := by decide +kernel
theorem d_Filling_findAsks_65 : decode m_Filling_findAsks.2.1 65 = .ok (.getfield 53, 3) := by decide +kernel
theorem d_Filling_findAsks_68 : decode m_Filling_findAsks.2.1 68 = .ok (.iconst 1, 1) := by decide +kernel
theorem d_Filling_findAsks_69 : decode m_Filling_findAsks.2.1 69 = .ok (.iadd, 1) := by decide +kernel
theorem d_Filling_findAsks_70 : decode m_Filling_findAsks.2.1 70 = .ok (.putfield 53, 3) := by decide +kernel
theorem d_Filling_findAsks_73 : decode m_Filling_findAsks.2.1 73 = .ok (.iinc 2 1, 3) := by decide +kernel
theorem d_Filling_findAsks_76 : decode m_Filling_findAsks.2.1 76 = .ok (.goto (-69), 3) := by decide +kernel
theorem d_Filling_findAsks_79 : decode m_Filling_findAsks.2.1 79 = .ok (.return_, 1) := by decide +kernel
theorem d_Filling_firstMan_0 : decode m_Filling_firstMan.2.1 0 = .ok (.iload_n 1, 1) := by decide +kernel
theorem d_Filling_firstMan_1 : decode m_Filling_firstMan.2.1 1 = .ok (.ifCond .lt 18, 3) := by decide +kernel
theorem d_Filling_firstMan_4 : decode m_Filling_firstMan.2.1 4 = .ok (.iload_n 1, 1) := by decide +kernel
theorem d_Filling_firstMan_5 : decode m_Filling_firstMan.2.1 5 = .ok (.aload_n 0, 1) := by decide +kernel
theorem d_Filling_firstMan_6 : decode m_Filling_firstMan.2.1 6 = .ok (.getfield 53, 3) := by decide +kernel
theorem d_Filling_firstMan_9 : decode m_Filling_firstMan.2.1 9 = .ok (.if_icmp .ge 10, 3) := by decide +kernel
theorem d_Filling_firstMan_12 : decode m_Filling_firstMan.2.1 12 = .ok (.aload_n 0, 1) := by decide +kernel
theorem d_Filling_firstMan_13 : decode m_Filling_firstMan.2.1 13 = .ok (.invokevirtual 79, 3) := by decide +kernel
theorem d_Filling_firstMan_16 : decode m_Filling_firstMan.2.1 16 = .ok (.ifCond .ne 6, 3) := by decide +kernel
theorem d_Filling_firstMan_19 : decode m_Filling_firstMan.2.1 19 = .ok (.bipush (-6), 2) := by decide +kernel
theorem d_Filling_firstMan_21 : decode m_Filling_firstMan.2.1 21 = .ok (.ireturn, 1) := by decide +kernel
theorem d_Filling_firstMan_22 : decode m_Filling_firstMan.2.1 22 = .ok (.aload_n 0, 1) := by decide +kernel
theorem d_Filling_firstMan_23 : decode m_Filling_firstMan.2.1 23 = .ok (.getfield 15, 3) := by decide +kernel
theorem d_Filling_firstMan_26 : decode m_Filling_firstMan.2.1 26 = .ok (.iload_n 1, 1) := by decide +kernel
theorem d_Filling_firstMan_27 : decode m_Filling_firstMan.2.1 27 = .ok (.iaload, 1) := by decide +kernel
theorem d_Filling_firstMan_28 : decode m_Filling_firstMan.2.1 28 = .ok (.invokestatic 83, 3) := by decide +kernel
theorem d_Filling_firstMan_31 : decode m_Filling_firstMan.2.1 31 = .ok (.ireturn, 1) := by decide +kernel
theorem d_Filling_init_0 : decode m_Filling_init.2.1 0 = .ok (.aload_n 0, 1) := by decide +kernel
theorem d_Filling_init_1 : decode m_Filling_init.2.1 1 = .ok (.invokespecial 3, 3) := by decide +kernel
theorem d_Filling_init_4 : decode m_Filling_init.2.1 4 = .ok (.aload_n 0, 1) := by decide +kernel
theorem d_Filling_init_5 : decode m_Filling_init.2.1 5 = .ok (.iconst 4, 1) := by decide +kernel
theorem d_Filling_init_6 : decode m_Filling_init.2.1 6 = .ok (.newarray .int, 2) := by decide +kernel
theorem d_Filling_init_8 : decode m_Filling_init.2.1 8 = .ok (.putfield 9, 3) := by decide +kernel
theorem d_Filling_init_11 : decode m_Filling_init.2.1 11 = .ok (.aload_n 0, 1) := by decide +kernel
theorem d_Filling_init_12 : decode m_Filling_init.2.1 12 = .ok (.iconst 4, 1) := by decide +kernel
theorem d_Filling_init_13 : decode m_Filling_init.2.1 13 = .ok (.newarray .int, 2) := by decide +kernel
theorem d_Filling_init_15 : decode m_Filling_init.2.1 15 = .ok (.putfield 15, 3) := by decide +kernel
theorem d_Filling_init_18 : decode m_Filling_init.2.1 18 = .ok (.return_, 1) := by decide +kernel
theorem d_Filling_isForced_0 : decode m_Filling_isForced.2.1 0 = .ok (.iconst 0, 1) := by decide +kernel
theorem d_Filling_isForced_1 : decode m_Filling_isForced.2.1 1 = .ok (.istore_n 3, 1) := by decide +kernel
theorem d_Filling_isForced_2 : decode m_Filling_isForced.2.1 2 = .ok (.iload_n 3, 1) := by decide +kernel
theorem d_Filling_isForced_3 : decode m_Filling_isForced.2.1 3 = .ok (.aload_n 0, 1) := by decide +kernel
theorem d_Filling_isForced_4 : decode m_Filling_isForced.2.1 4 = .ok (.getfield 53, 3) := by decide +kernel
theorem d_Filling_isForced_7 : decode m_Filling_isForced.2.1 7 = .ok (.if_icmp .ge 37, 3) := by decide +kernel
theorem d_Filling_isForced_10 : decode m_Filling_isForced.2.1 10 = .ok (.iload_n 1, 1) := by decide +kernel
theorem d_Filling_isForced_11 : decode m_Filling_isForced.2.1 11 = .ok (.aload_n 0, 1) := by decide +kernel
theorem d_Filling_isForced_12 : decode m_Filling_isForced.2.1 12 = .ok (.getfield 9, 3) := by decide +kernel
theorem d_Filling_isForced_15 : decode m_Filling_isForced.2.1 15 = .ok (.iload_n 3, 1) := by decide +kernel
theorem d_Filling_isForced_16 : decode m_Filling_isForced.2.1 16 = .ok (.iaload, 1) := by decide +kernel
theorem d_Filling_isForced_17 : decode m_Filling_isForced.2.1 17 = .ok (.invokestatic 70, 3) := by decide +kernel
theorem d_Filling_isForced_20 : decode m_Filling_isForced.2.1 20 = .ok (.ifCond .eq 18, 3) := by decide +kernel
theorem d_Filling_isForced_23 : decode m_Filling_isForced.2.1 23 = .ok (.aload_n 0, 1) := by decide +kernel
theorem d_Filling_isForced_24 : decode m_Filling_isForced.2.1 24 = .ok (.getfield 15, 3) := by decide +kernel
theorem d_Filling_isForced_27 : decode m_Filling_isForced.2.1 27 = .ok (.iload_n 3, 1) := by decide +kernel
theorem d_Filling_isForced_28 : decode m_Filling_isForced.2.1 28 = .ok (.iaload, 1) := by decide +kernel
theorem d_Filling_isForced_29 : decode m_Filling_isForced.2.1 29 = .ok (.iload_n 2, 1) := by decide +kernel
theorem d_Filling_isForced_30 : decode m_Filling_isForced.2.1 30 = .ok (.iconst (-1), 1) := by decide +kernel
theorem d_Filling_isForced_31 : decode m_Filling_isForced.2.1 31 = .ok (.ixor, 1) := by decide +kernel
theorem d_Filling_isForced_32 : decode m_Filling_isForced.2.1 32 = .ok (.iand, 1) := by decide +kernel
theorem d_Filling_isForced_33 : decode m_Filling_isForced.2.1 33 = .ok (.ifCond .ne 5, 3) := by decide +kernel
theorem d_Filling_isForced_36 : decode m_Filling_isForced.2.1 36 = .ok (.iconst 1, 1) := by decide +kernel
theorem d_Filling_isForced_37 : decode m_Filling_isForced.2.1 37 = .ok (.ireturn, 1) := by decide +kernel
theorem d_Filling_isForced_38 : decode m_Filling_isForced.2.1 38 = .ok (.iinc 3 1, 3) := by decide +kernel
theorem d_Filling_isForced_41 : decode m_Filling_isForced.2.1 41 = .ok (.goto (-39), 3) := by decide +kernel
theorem d_Filling_isForced_44 : decode m_Filling_isForced.2.1 44 = .ok (.iconst 0, 1) := by decide +kernel
theorem d_Filling_isForced_45 : decode m_Filling_isForced.2.1 45 = .ok (.ireturn, 1) := by decide +kernel
theorem d_Filling_ways_0 : decode m_Filling_ways.2.1 0 = .ok (.aload_n 0, 1) := by decide +kernel
theorem d_Filling_ways_1 : decode m_Filling_ways.2.1 1 = .ok (.getfield 28, 3) := by decide +kernel
theorem d_Filling_ways_4 : decode m_Filling_ways.2.1 4 = .ok (.ifCond .eq 7, 3) := by decide +kernel
theorem d_Filling_ways_7 : decode m_Filling_ways.2.1 7 = .ok (.iconst 1, 1) := by decide +kernel
theorem d_Filling_ways_8 : decode m_Filling_ways.2.1 8 = .ok (.goto 4, 3) := by decide +kernel
theorem d_Filling_ways_11 : decode m_Filling_ways.2.1 11 = .ok (.iconst 0, 1) := by decide +kernel
theorem d_Filling_ways_12 : decode m_Filling_ways.2.1 12 = .ok (.istore_n 1, 1) := by decide +kernel
theorem d_Filling_ways_13 : decode m_Filling_ways.2.1 13 = .ok (.iconst 0, 1) := by decide +kernel
theorem d_Filling_ways_14 : decode m_Filling_ways.2.1 14 = .ok (.istore_n 2, 1) := by decide +kernel
theorem d_Filling_ways_15 : decode m_Filling_ways.2.1 15 = .ok (.iload_n 2, 1) := by decide +kernel
theorem d_Filling_ways_16 : decode m_Filling_ways.2.1 16 = .ok (.aload_n 0, 1) := by decide +kernel
theorem d_Filling_ways_17 : decode m_Filling_ways.2.1 17 = .ok (.getfield 53, 3) := by decide +kernel
theorem d_Filling_ways_20 : decode m_Filling_ways.2.1 20 = .ok (.if_icmp .ge 21, 3) := by decide +kernel
theorem d_Filling_ways_23 : decode m_Filling_ways.2.1 23 = .ok (.iload_n 1, 1) := by decide +kernel
theorem d_Filling_ways_24 : decode m_Filling_ways.2.1 24 = .ok (.aload_n 0, 1) := by decide +kernel
theorem d_Filling_ways_25 : decode m_Filling_ways.2.1 25 = .ok (.getfield 15, 3) := by decide +kernel
theorem d_Filling_ways_28 : decode m_Filling_ways.2.1 28 = .ok (.iload_n 2, 1) := by decide +kernel
theorem d_Filling_ways_29 : decode m_Filling_ways.2.1 29 = .ok (.iaload, 1) := by decide +kernel
theorem d_Filling_ways_30 : decode m_Filling_ways.2.1 30 = .ok (.invokestatic 74, 3) := by decide +kernel
theorem d_Filling_ways_33 : decode m_Filling_ways.2.1 33 = .ok (.imul, 1) := by decide +kernel
theorem d_Filling_ways_34 : decode m_Filling_ways.2.1 34 = .ok (.istore_n 1, 1) := by decide +kernel
theorem d_Filling_ways_35 : decode m_Filling_ways.2.1 35 = .ok (.iinc 2 1, 3) := by decide +kernel
theorem d_Filling_ways_38 : decode m_Filling_ways.2.1 38 = .ok (.goto (-23), 3) := by decide +kernel
theorem d_Filling_ways_41 : decode m_Filling_ways.2.1 41 = .ok (.iload_n 1, 1) := by decide +kernel
theorem d_Filling_ways_42 : decode m_Filling_ways.2.1 42 = .ok (.ireturn, 1) := by decide +kernel
theorem d_Filling_weigh_0 : decode m_Filling_weigh.2.1 0 = .ok (.aload_n 0, 1) := by decide +kernel
theorem d_Filling_weigh_1 : decode m_Filling_weigh.2.1 1 = .ok (.aload_n 1, 1) := by decide +kernel
theorem d_Filling_weigh_2 : decode m_Filling_weigh.2.1 2 = .ok (.getfield 18, 3) := by decide +kernel
theorem d_Filling_weigh_5 : decode m_Filling_weigh.2.1 5 = .ok (.invokevirtual 24, 3) := by decide +kernel
theorem d_Filling_weigh_8 : decode m_Filling_weigh.2.1 8 = .ok (.aload_n 0, 1) := by decide +kernel
theorem d_Filling_weigh_9 : decode m_Filling_weigh.2.1 9 = .ok (.iconst 1, 1) := by decide +kernel
theorem d_Filling_weigh_10 : decode m_Filling_weigh.2.1 10 = .ok (.putfield 28, 3) := by decide +kernel
theorem d_Filling_weigh_13 : decode m_Filling_weigh.2.1 13 = .ok (.iconst 0, 1) := by decide +kernel
theorem d_Filling_weigh_14 : decode m_Filling_weigh.2.1 14 = .ok (.istore_n 2, 1) := by decide +kernel
theorem d_Filling_weigh_15 : decode m_Filling_weigh.2.1 15 = .ok (.iload_n 2, 1) := by decide +kernel
theorem d_Filling_weigh_16 : decode m_Filling_weigh.2.1 16 = .ok (.aload_n 1, 1) := by decide +kernel
theorem d_Filling_weigh_17 : decode m_Filling_weigh.2.1 17 = .ok (.getfield 32, 3) := by decide +kernel
theorem d_Filling_weigh_20 : decode m_Filling_weigh.2.1 20 = .ok (.if_icmp .ge 37, 3) := by decide +kernel
theorem d_Filling_weigh_23 : decode m_Filling_weigh.2.1 23 = .ok (.aload_n 0, 1) := by decide +kernel
theorem d_Filling_weigh_24 : decode m_Filling_weigh.2.1 24 = .ok (.aload_n 1, 1) := by decide +kernel
theorem d_Filling_weigh_25 : decode m_Filling_weigh.2.1 25 = .ok (.aload_n 1, 1) := by decide +kernel
theorem d_Filling_weigh_26 : decode m_Filling_weigh.2.1 26 = .ok (.getfield 36, 3) := by decide +kernel
theorem d_Filling_weigh_29 : decode m_Filling_weigh.2.1 29 = .ok (.iload_n 2, 1) := by decide +kernel
theorem d_Filling_weigh_30 : decode m_Filling_weigh.2.1 30 = .ok (.iaload, 1) := by decide +kernel
theorem d_Filling_weigh_31 : decode m_Filling_weigh.2.1 31 = .ok (.invokevirtual 39, 3) := by decide +kernel
theorem d_Filling_weigh_34 : decode m_Filling_weigh.2.1 34 = .ok (.aload_n 1, 1) := by decide +kernel
theorem d_Filling_weigh_35 : decode m_Filling_weigh.2.1 35 = .ok (.aload_n 1, 1) := by decide +kernel
theorem d_Filling_weigh_36 : decode m_Filling_weigh.2.1 36 = .ok (.getfield 43, 3) := by decide +kernel
theorem d_Filling_weigh_39 : decode m_Filling_weigh.2.1 39 = .ok (.iload_n 2, 1) := by decide +kernel
theorem d_Filling_weigh_40 : decode m_Filling_weigh.2.1 40 = .ok (.iaload, 1) := by decide +kernel
theorem d_Filling_weigh_41 : decode m_Filling_weigh.2.1 41 = .ok (.invokevirtual 46, 3) := by decide +kernel
theorem d_Filling_weigh_44 : decode m_Filling_weigh.2.1 44 = .ok (.aload_n 1, 1) := by decide +kernel
theorem d_Filling_weigh_45 : decode m_Filling_weigh.2.1 45 = .ok (.getfield 18, 3) := by decide +kernel
theorem d_Filling_weigh_48 : decode m_Filling_weigh.2.1 48 = .ok (.invokevirtual 49, 3) := by decide +kernel
theorem d_Filling_weigh_51 : decode m_Filling_weigh.2.1 51 = .ok (.iinc 2 1, 3) := by decide +kernel
theorem d_Filling_weigh_54 : decode m_Filling_weigh.2.1 54 = .ok (.goto (-39), 3) := by decide +kernel
theorem d_Filling_weigh_57 : decode m_Filling_weigh.2.1 57 = .ok (.return_, 1) := by decide +kernel
theorem d_JI_bitCount_0 : decode m_JI_bitCount.2.1 0 = .ok (.iload_n 0, 1) := by decide +kernel
theorem d_JI_bitCount_1 : decode m_JI_bitCount.2.1 1 = .ok (.iload_n 0, 1) := by decide +kernel
theorem d_JI_bitCount_2 : decode m_JI_bitCount.2.1 2 = .ok (.iconst 1, 1) := by decide +kernel
theorem d_JI_bitCount_3 : decode m_JI_bitCount.2.1 3 = .ok (.iushr, 1) := by decide +kernel
theorem d_JI_bitCount_4 : decode m_JI_bitCount.2.1 4 = .ok (.ldc_w 265, 3) := by decide +kernel
theorem d_JI_bitCount_7 : decode m_JI_bitCount.2.1 7 = .ok (.iand, 1) := by decide +kernel
theorem d_JI_bitCount_8 : decode m_JI_bitCount.2.1 8 = .ok (.isub, 1) := by decide +kernel
theorem d_JI_bitCount_9 : decode m_JI_bitCount.2.1 9 = .ok (.istore_n 0, 1) := by decide +kernel
theorem d_JI_bitCount_10 : decode m_JI_bitCount.2.1 10 = .ok (.iload_n 0, 1) := by decide +kernel
theorem d_JI_bitCount_11 : decode m_JI_bitCount.2.1 11 = .ok (.ldc_w 266, 3) := by decide +kernel
theorem d_JI_bitCount_14 : decode m_JI_bitCount.2.1 14 = .ok (.iand, 1) := by decide +kernel
theorem d_JI_bitCount_15 : decode m_JI_bitCount.2.1 15 = .ok (.iload_n 0, 1) := by decide +kernel
theorem d_JI_bitCount_16 : decode m_JI_bitCount.2.1 16 = .ok (.iconst 2, 1) := by decide +kernel
theorem d_JI_bitCount_17 : decode m_JI_bitCount.2.1 17 = .ok (.iushr, 1) := by decide +kernel
theorem d_JI_bitCount_18 : decode m_JI_bitCount.2.1 18 = .ok (.ldc_w 266, 3) := by decide +kernel
theorem d_JI_bitCount_21 : decode m_JI_bitCount.2.1 21 = .ok (.iand, 1) := by decide +kernel
theorem d_JI_bitCount_22 : decode m_JI_bitCount.2.1 22 = .ok (.iadd, 1) := by decide +kernel
theorem d_JI_bitCount_23 : decode m_JI_bitCount.2.1 23 = .ok (.istore_n 0, 1) := by decide +kernel
theorem d_JI_bitCount_24 : decode m_JI_bitCount.2.1 24 = .ok (.iload_n 0, 1) := by decide +kernel
theorem d_JI_bitCount_25 : decode m_JI_bitCount.2.1 25 = .ok (.iload_n 0, 1) := by decide +kernel
theorem d_JI_bitCount_26 : decode m_JI_bitCount.2.1 26 = .ok (.iconst 4, 1) := by decide +kernel
theorem d_JI_bitCount_27 : decode m_JI_bitCount.2.1 27 = .ok (.iushr, 1) := by decide +kernel
theorem d_JI_bitCount_28 : decode m_JI_bitCount.2.1 28 = .ok (.iadd, 1) := by decide +kernel
theorem d_JI_bitCount_29 : decode m_JI_bitCount.2.1 29 = .ok (.ldc_w 267, 3) := by decide +kernel
theorem d_JI_bitCount_32 : decode m_JI_bitCount.2.1 32 = .ok (.iand, 1) := by decide +kernel
theorem d_JI_bitCount_33 : decode m_JI_bitCount.2.1 33 = .ok (.istore_n 0, 1) := by decide +kernel
theorem d_JI_bitCount_34 : decode m_JI_bitCount.2.1 34 = .ok (.iload_n 0, 1) := by decide +kernel
theorem d_JI_bitCount_35 : decode m_JI_bitCount.2.1 35 = .ok (.iload_n 0, 1) := by decide +kernel
theorem d_JI_bitCount_36 : decode m_JI_bitCount.2.1 36 = .ok (.bipush 8, 2) := by decide +kernel
theorem d_JI_bitCount_38 : decode m_JI_bitCount.2.1 38 = .ok (.iushr, 1) := by decide +kernel
theorem d_JI_bitCount_39 : decode m_JI_bitCount.2.1 39 = .ok (.iadd, 1) := by decide +kernel
theorem d_JI_bitCount_40 : decode m_JI_bitCount.2.1 40 = .ok (.istore_n 0, 1) := by decide +kernel
theorem d_JI_bitCount_41 : decode m_JI_bitCount.2.1 41 = .ok (.iload_n 0, 1) := by decide +kernel
theorem d_JI_bitCount_42 : decode m_JI_bitCount.2.1 42 = .ok (.iload_n 0, 1) := by decide +kernel
theorem d_JI_bitCount_43 : decode m_JI_bitCount.2.1 43 = .ok (.bipush 16, 2) := by decide +kernel
theorem d_JI_bitCount_45 : decode m_JI_bitCount.2.1 45 = .ok (.iushr, 1) := by decide +kernel
theorem d_JI_bitCount_46 : decode m_JI_bitCount.2.1 46 = .ok (.iadd, 1) := by decide +kernel
theorem d_JI_bitCount_47 : decode m_JI_bitCount.2.1 47 = .ok (.istore_n 0, 1) := by decide +kernel
theorem d_JI_bitCount_48 : decode m_JI_bitCount.2.1 48 = .ok (.iload_n 0, 1) := by decide +kernel
theorem d_JI_bitCount_49 : decode m_JI_bitCount.2.1 49 = .ok (.bipush 63, 2) := by decide +kernel
theorem d_JI_bitCount_51 : decode m_JI_bitCount.2.1 51 = .ok (.iand, 1) := by decide +kernel
theorem d_JI_bitCount_52 : decode m_JI_bitCount.2.1 52 = .ok (.ireturn, 1) := by decide +kernel
theorem d_JM_max_0 : decode m_JM_max.2.1 0 = .ok (.iload_n 0, 1) := by decide +kernel
theorem d_JM_max_1 : decode m_JM_max.2.1 1 = .ok (.iload_n 1, 1) := by decide +kernel
theorem d_JM_max_2 : decode m_JM_max.2.1 2 = .ok (.if_icmp .lt 7, 3) := by decide +kernel
theorem d_JM_max_5 : decode m_JM_max.2.1 5 = .ok (.iload_n 0, 1) := by decide +kernel
theorem d_JM_max_6 : decode m_JM_max.2.1 6 = .ok (.goto 4, 3) := by decide +kernel
theorem d_JM_max_9 : decode m_JM_max.2.1 9 = .ok (.iload_n 1, 1) := by decide +kernel
theorem d_JM_max_10 : decode m_JM_max.2.1 10 = .ok (.ireturn, 1) := by decide +kernel
theorem d_Matchmaker_arrange_0 : decode m_Matchmaker_arrange.2.1 0 = .ok (.iconst 0, 1) := by decide +kernel
theorem d_Matchmaker_arrange_1 : decode m_Matchmaker_arrange.2.1 1 = .ok (.istore_n 2, 1) := by decide +kernel
theorem d_Matchmaker_arrange_2 : decode m_Matchmaker_arrange.2.1 2 = .ok (.iconst 0, 1) := by decide +kernel
theorem d_Matchmaker_arrange_3 : decode m_Matchmaker_arrange.2.1 3 = .ok (.istore_n 3, 1) := by decide +kernel
theorem d_Matchmaker_arrange_4 : decode m_Matchmaker_arrange.2.1 4 = .ok (.iload_n 3, 1) := by decide +kernel
theorem d_Matchmaker_arrange_5 : decode m_Matchmaker_arrange.2.1 5 = .ok (.bipush 6, 2) := by decide +kernel
theorem d_Matchmaker_arrange_7 : decode m_Matchmaker_arrange.2.1 7 = .ok (.if_icmp .ge 49, 3) := by decide +kernel
theorem d_Matchmaker_arrange_10 : decode m_Matchmaker_arrange.2.1 10 = .ok (.aload_n 0, 1) := by decide +kernel
theorem d_Matchmaker_arrange_11 : decode m_Matchmaker_arrange.2.1 11 = .ok (.getfield 9, 3) := by decide +kernel
theorem d_Matchmaker_arrange_14 : decode m_Matchmaker_arrange.2.1 14 = .ok (.iload_n 3, 1) := by decide +kernel
theorem d_Matchmaker_arrange_15 : decode m_Matchmaker_arrange.2.1 15 = .ok (.aload_n 1, 1) := by decide +kernel
theorem d_Matchmaker_arrange_16 : decode m_Matchmaker_arrange.2.1 16 = .ok (.iload_n 3, 1) := by decide +kernel
theorem d_Matchmaker_arrange_17 : decode m_Matchmaker_arrange.2.1 17 = .ok (.invokevirtual 21, 3) := by decide +kernel
theorem d_Matchmaker_arrange_20 : decode m_Matchmaker_arrange.2.1 20 = .ok (.iastore, 1) := by decide +kernel
theorem d_Matchmaker_arrange_21 : decode m_Matchmaker_arrange.2.1 21 = .ok (.aload_n 0, 1) := by decide +kernel
theorem d_Matchmaker_arrange_22 : decode m_Matchmaker_arrange.2.1 22 = .ok (.getfield 18, 3) := by decide +kernel
theorem d_Matchmaker_arrange_25 : decode m_Matchmaker_arrange.2.1 25 = .ok (.iload_n 3, 1) := by decide +kernel
theorem d_Matchmaker_arrange_26 : decode m_Matchmaker_arrange.2.1 26 = .ok (.aload_n 1, 1) := by decide +kernel
theorem d_Matchmaker_arrange_27 : decode m_Matchmaker_arrange.2.1 27 = .ok (.getfield 27, 3) := by decide +kernel
theorem d_Matchmaker_arrange_30 : decode m_Matchmaker_arrange.2.1 30 = .ok (.iload_n 3, 1) := by decide +kernel
theorem d_Matchmaker_arrange_31 : decode m_Matchmaker_arrange.2.1 31 = .ok (.iaload, 1) := by decide +kernel
theorem d_Matchmaker_arrange_32 : decode m_Matchmaker_arrange.2.1 32 = .ok (.iastore, 1) := by decide +kernel
theorem d_Matchmaker_arrange_33 : decode m_Matchmaker_arrange.2.1 33 = .ok (.aload_n 0, 1) := by decide +kernel
theorem d_Matchmaker_arrange_34 : decode m_Matchmaker_arrange.2.1 34 = .ok (.getfield 18, 3) := by decide +kernel
theorem d_Matchmaker_arrange_37 : decode m_Matchmaker_arrange.2.1 37 = .ok (.iload_n 3, 1) := by decide +kernel
theorem d_Matchmaker_arrange_38 : decode m_Matchmaker_arrange.2.1 38 = .ok (.iaload, 1) := by decide +kernel
theorem d_Matchmaker_arrange_39 : decode m_Matchmaker_arrange.2.1 39 = .ok (.bipush (-6), 2) := by decide +kernel
theorem d_Matchmaker_arrange_41 : decode m_Matchmaker_arrange.2.1 41 = .ok (.if_icmp .ne 9, 3) := by decide +kernel
theorem d_Matchmaker_arrange_44 : decode m_Matchmaker_arrange.2.1 44 = .ok (.iload_n 2, 1) := by decide +kernel
theorem d_Matchmaker_arrange_45 : decode m_Matchmaker_arrange.2.1 45 = .ok (.iconst 1, 1) := by decide +kernel
theorem d_Matchmaker_arrange_46 : decode m_Matchmaker_arrange.2.1 46 = .ok (.iload_n 3, 1) := by decide +kernel
theorem d_Matchmaker_arrange_47 : decode m_Matchmaker_arrange.2.1 47 = .ok (.ishl, 1) := by decide +kernel
theorem d_Matchmaker_arrange_48 : decode m_Matchmaker_arrange.2.1 48 = .ok (.ior, 1) := by decide +kernel
theorem d_Matchmaker_arrange_49 : decode m_Matchmaker_arrange.2.1 49 = .ok (.istore_n 2, 1) := by decide +kernel
theorem d_Matchmaker_arrange_50 : decode m_Matchmaker_arrange.2.1 50 = .ok (.iinc 3 1, 3) := by decide +kernel
theorem d_Matchmaker_arrange_53 : decode m_Matchmaker_arrange.2.1 53 = .ok (.goto (-49), 3) := by decide +kernel
theorem d_Matchmaker_arrange_56 : decode m_Matchmaker_arrange.2.1 56 = .ok (.aload_n 0, 1) := by decide +kernel
theorem d_Matchmaker_arrange_57 : decode m_Matchmaker_arrange.2.1 57 = .ok (.iload_n 2, 1) := by decide +kernel
theorem d_Matchmaker_arrange_58 : decode m_Matchmaker_arrange.2.1 58 = .ok (.invokevirtual 30, 3) := by decide +kernel
theorem d_Matchmaker_arrange_61 : decode m_Matchmaker_arrange.2.1 61 = .ok (.aload_n 0, 1) := by decide +kernel
theorem d_Matchmaker_arrange_62 : decode m_Matchmaker_arrange.2.1 62 = .ok (.iload_n 2, 1) := by decide +kernel
theorem d_Matchmaker_arrange_63 : decode m_Matchmaker_arrange.2.1 63 = .ok (.invokevirtual 34, 3) := by decide +kernel
theorem d_Matchmaker_arrange_66 : decode m_Matchmaker_arrange.2.1 66 = .ok (.aload_n 0, 1) := by decide +kernel
theorem d_Matchmaker_arrange_67 : decode m_Matchmaker_arrange.2.1 67 = .ok (.getfield 15, 3) := by decide +kernel
theorem d_Matchmaker_arrange_70 : decode m_Matchmaker_arrange.2.1 70 = .ok (.iload_n 2, 1) := by decide +kernel
theorem d_Matchmaker_arrange_71 : decode m_Matchmaker_arrange.2.1 71 = .ok (.iaload, 1) := by decide +kernel
theorem d_Matchmaker_arrange_72 : decode m_Matchmaker_arrange.2.1 72 = .ok (.ireturn, 1) := by decide +kernel
theorem d_Matchmaker_bestOther_0 : decode m_Matchmaker_bestOther.2.1 0 = .ok (.bipush (-6), 2) := by decide +kernel
theorem d_Matchmaker_bestOther_2 : decode m_Matchmaker_bestOther.2.1 2 = .ok (.istore_n 3, 1) := by decide +kernel
theorem d_Matchmaker_bestOther_3 : decode m_Matchmaker_bestOther.2.1 3 = .ok (.iload_n 2, 1) := by decide +kernel
theorem d_Matchmaker_bestOther_4 : decode m_Matchmaker_bestOther.2.1 4 = .ok (.iconst 1, 1) := by decide +kernel
theorem d_Matchmaker_bestOther_5 : decode m_Matchmaker_bestOther.2.1 5 = .ok (.iadd, 1) := by decide +kernel
theorem d_Matchmaker_bestOther_6 : decode m_Matchmaker_bestOther.2.1 6 = .ok (.istore 4, 2) := by decide +kernel
theorem d_Matchmaker_bestOther_8 : decode m_Matchmaker_bestOther.2.1 8 = .ok (.iload 4, 2) := by decide +kernel
theorem d_Matchmaker_bestOther_10 : decode m_Matchmaker_bestOther.2.1 10 = .ok (.bipush 6, 2) := by decide +kernel
theorem d_Matchmaker_bestOther_12 : decode m_Matchmaker_bestOther.2.1 12 = .ok (.if_icmp .ge 45, 3) := by decide +kernel
theorem d_Matchmaker_bestOther_15 : decode m_Matchmaker_bestOther.2.1 15 = .ok (.iload_n 1, 1) := by decide +kernel
theorem d_Matchmaker_bestOther_16 : decode m_Matchmaker_bestOther.2.1 16 = .ok (.iload 4, 2) := by decide +kernel
theorem d_Matchmaker_bestOther_18 : decode m_Matchmaker_bestOther.2.1 18 = .ok (.invokestatic 60, 3) := by decide +kernel
theorem d_Matchmaker_bestOther_21 : decode m_Matchmaker_bestOther.2.1 21 = .ok (.ifCond .eq 30, 3) := by decide +kernel
theorem d_Matchmaker_bestOther_24 : decode m_Matchmaker_bestOther.2.1 24 = .ok (.iload_n 3, 1) := by decide +kernel
theorem d_Matchmaker_bestOther_25 : decode m_Matchmaker_bestOther.2.1 25 = .ok (.bipush (-6), 2) := by decide +kernel
theorem d_Matchmaker_bestOther_27 : decode m_Matchmaker_bestOther.2.1 27 = .ok (.if_icmp .eq 21, 3) := by decide +kernel
theorem d_Matchmaker_bestOther_30 : decode m_Matchmaker_bestOther.2.1 30 = .ok (.aload_n 0, 1) := by decide +kernel
theorem d_Matchmaker_bestOther_31 : decode m_Matchmaker_bestOther.2.1 31 = .ok (.iload_n 1, 1) := by decide +kernel
theorem d_Matchmaker_bestOther_32 : decode m_Matchmaker_bestOther.2.1 32 = .ok (.iload_n 2, 1) := by decide +kernel
theorem d_Matchmaker_bestOther_33 : decode m_Matchmaker_bestOther.2.1 33 = .ok (.iload 4, 2) := by decide +kernel
theorem d_Matchmaker_bestOther_35 : decode m_Matchmaker_bestOther.2.1 35 = .ok (.invokevirtual 56, 3) := by decide +kernel
theorem d_Matchmaker_bestOther_38 : decode m_Matchmaker_bestOther.2.1 38 = .ok (.aload_n 0, 1) := by decide +kernel
theorem d_Matchmaker_bestOther_39 : decode m_Matchmaker_bestOther.2.1 39 = .ok (.iload_n 1, 1) := by decide +kernel
theorem d_Matchmaker_bestOther_40 : decode m_Matchmaker_bestOther.2.1 40 = .ok (.iload_n 2, 1) := by decide +kernel
theorem d_Matchmaker_bestOther_41 : decode m_Matchmaker_bestOther.2.1 41 = .ok (.iload_n 3, 1) := by decide +kernel
theorem d_Matchmaker_bestOther_42 : decode m_Matchmaker_bestOther.2.1 42 = .ok (.invokevirtual 56, 3) := by decide +kernel
theorem d_Matchmaker_bestOther_45 : decode m_Matchmaker_bestOther.2.1 45 = .ok (.if_icmp .ge 6, 3) := by decide +kernel
theorem d_Matchmaker_bestOther_48 : decode m_Matchmaker_bestOther.2.1 48 = .ok (.iload 4, 2) := by decide +kernel
theorem d_Matchmaker_bestOther_50 : decode m_Matchmaker_bestOther.2.1 50 = .ok (.istore_n 3, 1) := by decide +kernel
theorem d_Matchmaker_bestOther_51 : decode m_Matchmaker_bestOther.2.1 51 = .ok (.iinc 4 1, 3) := by decide +kernel
theorem d_Matchmaker_bestOther_54 : decode m_Matchmaker_bestOther.2.1 54 = .ok (.goto (-46), 3) := by decide +kernel
theorem d_Matchmaker_bestOther_57 : decode m_Matchmaker_bestOther.2.1 57 = .ok (.iload_n 3, 1) := by decide +kernel
theorem d_Matchmaker_bestOther_58 : decode m_Matchmaker_bestOther.2.1 58 = .ok (.ireturn, 1) := by decide +kernel
theorem d_Matchmaker_choose_0 : decode m_Matchmaker_choose.2.1 0 = .ok (.iload_n 1, 1) := by decide +kernel
theorem d_Matchmaker_choose_1 : decode m_Matchmaker_choose.2.1 1 = .ok (.istore_n 2, 1) := by decide +kernel
theorem d_Matchmaker_choose_2 : decode m_Matchmaker_choose.2.1 2 = .ok (.iconst 0, 1) := by decide +kernel
theorem d_Matchmaker_choose_3 : decode m_Matchmaker_choose.2.1 3 = .ok (.istore_n 3, 1) := by decide +kernel
theorem d_Matchmaker_choose_4 : decode m_Matchmaker_choose.2.1 4 = .ok (.iload_n 3, 1) := by decide +kernel
theorem d_Matchmaker_choose_5 : decode m_Matchmaker_choose.2.1 5 = .ok (.bipush 6, 2) := by decide +kernel
theorem d_Matchmaker_choose_7 : decode m_Matchmaker_choose.2.1 7 = .ok (.if_icmp .ge 69, 3) := by decide +kernel
theorem d_Matchmaker_choose_10 : decode m_Matchmaker_choose.2.1 10 = .ok (.iload_n 2, 1) := by decide +kernel
theorem d_Matchmaker_choose_11 : decode m_Matchmaker_choose.2.1 11 = .ok (.iload_n 3, 1) := by decide +kernel
theorem d_Matchmaker_choose_12 : decode m_Matchmaker_choose.2.1 12 = .ok (.invokestatic 60, 3) := by decide +kernel
theorem d_Matchmaker_choose_15 : decode m_Matchmaker_choose.2.1 15 = .ok (.ifCond .eq 12, 3) := by decide +kernel
theorem d_Matchmaker_choose_18 : decode m_Matchmaker_choose.2.1 18 = .ok (.aload_n 0, 1) := by decide +kernel
theorem d_Matchmaker_choose_19 : decode m_Matchmaker_choose.2.1 19 = .ok (.iload_n 2, 1) := by decide +kernel
theorem d_Matchmaker_choose_20 : decode m_Matchmaker_choose.2.1 20 = .ok (.iload_n 3, 1) := by decide +kernel
theorem d_Matchmaker_choose_21 : decode m_Matchmaker_choose.2.1 21 = .ok (.invokevirtual 52, 3) := by decide +kernel
theorem d_Matchmaker_choose_24 : decode m_Matchmaker_choose.2.1 24 = .ok (.goto 5, 3) := by decide +kernel
theorem d_Matchmaker_choose_27 : decode m_Matchmaker_choose.2.1 27 = .ok (.bipush (-6), 2) := by decide +kernel
theorem d_Matchmaker_choose_29 : decode m_Matchmaker_choose.2.1 29 = .ok (.istore 4, 2) := by decide +kernel
theorem d_Matchmaker_choose_31 : decode m_Matchmaker_choose.2.1 31 = .ok (.iload 4, 2) := by decide +kernel
theorem d_Matchmaker_choose_33 : decode m_Matchmaker_choose.2.1 33 = .ok (.invokestatic 48, 3) := by decide +kernel
theorem d_Matchmaker_choose_36 : decode m_Matchmaker_choose.2.1 36 = .ok (.ifCond .eq 34, 3) := by decide +kernel
theorem d_Matchmaker_choose_39 : decode m_Matchmaker_choose.2.1 39 = .ok (.aload_n 0, 1) := by decide +kernel
theorem d_Matchmaker_choose_40 : decode m_Matchmaker_choose.2.1 40 = .ok (.getfield 18, 3) := by decide +kernel
theorem d_Matchmaker_choose_43 : decode m_Matchmaker_choose.2.1 43 = .ok (.iload_n 3, 1) := by decide +kernel
theorem d_Matchmaker_choose_44 : decode m_Matchmaker_choose.2.1 44 = .ok (.iload 4, 2) := by decide +kernel
theorem d_Matchmaker_choose_46 : decode m_Matchmaker_choose.2.1 46 = .ok (.iastore, 1) := by decide +kernel
theorem d_Matchmaker_choose_47 : decode m_Matchmaker_choose.2.1 47 = .ok (.aload_n 0, 1) := by decide +kernel
theorem d_Matchmaker_choose_48 : decode m_Matchmaker_choose.2.1 48 = .ok (.getfield 18, 3) := by decide +kernel
theorem d_Matchmaker_choose_51 : decode m_Matchmaker_choose.2.1 51 = .ok (.iload 4, 2) := by decide +kernel
theorem d_Matchmaker_choose_53 : decode m_Matchmaker_choose.2.1 53 = .ok (.iload_n 3, 1) := by decide +kernel
theorem d_Matchmaker_choose_54 : decode m_Matchmaker_choose.2.1 54 = .ok (.iastore, 1) := by decide +kernel
theorem d_Matchmaker_choose_55 : decode m_Matchmaker_choose.2.1 55 = .ok (.iload_n 2, 1) := by decide +kernel
theorem d_Matchmaker_choose_56 : decode m_Matchmaker_choose.2.1 56 = .ok (.iconst 1, 1) := by decide +kernel
theorem d_Matchmaker_choose_57 : decode m_Matchmaker_choose.2.1 57 = .ok (.iload_n 3, 1) := by decide +kernel
theorem d_Matchmaker_choose_58 : decode m_Matchmaker_choose.2.1 58 = .ok (.ishl, 1) := by decide +kernel
theorem d_Matchmaker_choose_59 : decode m_Matchmaker_choose.2.1 59 = .ok (.iconst (-1), 1) := by decide +kernel
theorem d_Matchmaker_choose_60 : decode m_Matchmaker_choose.2.1 60 = .ok (.ixor, 1) := by decide +kernel
theorem d_Matchmaker_choose_61 : decode m_Matchmaker_choose.2.1 61 = .ok (.iconst 1, 1) := by decide +kernel
theorem d_Matchmaker_choose_62 : decode m_Matchmaker_choose.2.1 62 = .ok (.iload 4, 2) := by decide +kernel
theorem d_Matchmaker_choose_64 : decode m_Matchmaker_choose.2.1 64 = .ok (.ishl, 1) := by decide +kernel
theorem d_Matchmaker_choose_65 : decode m_Matchmaker_choose.2.1 65 = .ok (.iconst (-1), 1) := by decide +kernel
theorem d_Matchmaker_choose_66 : decode m_Matchmaker_choose.2.1 66 = .ok (.ixor, 1) := by decide +kernel
theorem d_Matchmaker_choose_67 : decode m_Matchmaker_choose.2.1 67 = .ok (.iand, 1) := by decide +kernel
theorem d_Matchmaker_choose_68 : decode m_Matchmaker_choose.2.1 68 = .ok (.iand, 1) := by decide +kernel
theorem d_Matchmaker_choose_69 : decode m_Matchmaker_choose.2.1 69 = .ok (.istore_n 2, 1) := by decide +kernel
theorem d_Matchmaker_choose_70 : decode m_Matchmaker_choose.2.1 70 = .ok (.iinc 3 1, 3) := by decide +kernel
theorem d_Matchmaker_choose_73 : decode m_Matchmaker_choose.2.1 73 = .ok (.goto (-69), 3) := by decide +kernel
theorem d_Matchmaker_choose_76 : decode m_Matchmaker_choose.2.1 76 = .ok (.return_, 1) := by decide +kernel
theorem d_Matchmaker_init_0 : decode m_Matchmaker_init.2.1 0 = .ok (.aload_n 0, 1) := by decide +kernel
theorem d_Matchmaker_init_1 : decode m_Matchmaker_init.2.1 1 = .ok (.invokespecial 3, 3) := by decide +kernel
theorem d_Matchmaker_init_4 : decode m_Matchmaker_init.2.1 4 = .ok (.aload_n 0, 1) := by decide +kernel
theorem d_Matchmaker_init_5 : decode m_Matchmaker_init.2.1 5 = .ok (.bipush 6, 2) := by decide +kernel
theorem d_Matchmaker_init_7 : decode m_Matchmaker_init.2.1 7 = .ok (.newarray .int, 2) := by decide +kernel
theorem d_Matchmaker_init_9 : decode m_Matchmaker_init.2.1 9 = .ok (.putfield 9, 3) := by decide +kernel
theorem d_Matchmaker_init_12 : decode m_Matchmaker_init.2.1 12 = .ok (.aload_n 0, 1) := by decide +kernel
theorem d_Matchmaker_init_13 : decode m_Matchmaker_init.2.1 13 = .ok (.bipush 64, 2) := by decide +kernel
theorem d_Matchmaker_init_15 : decode m_Matchmaker_init.2.1 15 = .ok (.newarray .int, 2) := by decide +kernel
theorem d_Matchmaker_init_17 : decode m_Matchmaker_init.2.1 17 = .ok (.putfield 15, 3) := by decide +kernel
theorem d_Matchmaker_init_20 : decode m_Matchmaker_init.2.1 20 = .ok (.aload_n 0, 1) := by decide +kernel
theorem d_Matchmaker_init_21 : decode m_Matchmaker_init.2.1 21 = .ok (.bipush 6, 2) := by decide +kernel
theorem d_Matchmaker_init_23 : decode m_Matchmaker_init.2.1 23 = .ok (.newarray .int, 2) := by decide +kernel
theorem d_Matchmaker_init_25 : decode m_Matchmaker_init.2.1 25 = .ok (.putfield 18, 3) := by decide +kernel
theorem d_Matchmaker_init_28 : decode m_Matchmaker_init.2.1 28 = .ok (.return_, 1) := by decide +kernel
theorem d_Matchmaker_leastSum_0 : decode m_Matchmaker_leastSum.2.1 0 = .ok (.iload_n 1, 1) := by decide +kernel
theorem d_Matchmaker_leastSum_1 : decode m_Matchmaker_leastSum.2.1 1 = .ok (.invokestatic 45, 3) := by decide +kernel
theorem d_Matchmaker_leastSum_4 : decode m_Matchmaker_leastSum.2.1 4 = .ok (.istore_n 2, 1) := by decide +kernel
theorem d_Matchmaker_leastSum_5 : decode m_Matchmaker_leastSum.2.1 5 = .ok (.iload_n 2, 1) := by decide +kernel
theorem d_Matchmaker_leastSum_6 : decode m_Matchmaker_leastSum.2.1 6 = .ok (.invokestatic 48, 3) := by decide +kernel
theorem d_Matchmaker_leastSum_9 : decode m_Matchmaker_leastSum.2.1 9 = .ok (.ifCond .eq 12, 3) := by decide +kernel
theorem d_Matchmaker_leastSum_12 : decode m_Matchmaker_leastSum.2.1 12 = .ok (.aload_n 0, 1) := by decide +kernel
theorem d_Matchmaker_leastSum_13 : decode m_Matchmaker_leastSum.2.1 13 = .ok (.iload_n 1, 1) := by decide +kernel
theorem d_Matchmaker_leastSum_14 : decode m_Matchmaker_leastSum.2.1 14 = .ok (.iload_n 2, 1) := by decide +kernel
theorem d_Matchmaker_leastSum_15 : decode m_Matchmaker_leastSum.2.1 15 = .ok (.invokevirtual 52, 3) := by decide +kernel
theorem d_Matchmaker_leastSum_18 : decode m_Matchmaker_leastSum.2.1 18 = .ok (.goto 5, 3) := by decide +kernel
theorem d_Matchmaker_leastSum_21 : decode m_Matchmaker_leastSum.2.1 21 = .ok (.bipush (-6), 2) := by decide +kernel
theorem d_Matchmaker_leastSum_23 : decode m_Matchmaker_leastSum.2.1 23 = .ok (.istore_n 3, 1) := by decide +kernel
theorem d_Matchmaker_leastSum_24 : decode m_Matchmaker_leastSum.2.1 24 = .ok (.iload_n 3, 1) := by decide +kernel
theorem d_Matchmaker_leastSum_25 : decode m_Matchmaker_leastSum.2.1 25 = .ok (.invokestatic 48, 3) := by decide +kernel
theorem d_Matchmaker_leastSum_28 : decode m_Matchmaker_leastSum.2.1 28 = .ok (.ifCond .eq 13, 3) := by decide +kernel
theorem d_Matchmaker_leastSum_31 : decode m_Matchmaker_leastSum.2.1 31 = .ok (.aload_n 0, 1) := by decide +kernel
theorem d_Matchmaker_leastSum_32 : decode m_Matchmaker_leastSum.2.1 32 = .ok (.iload_n 1, 1) := by decide +kernel
theorem d_Matchmaker_leastSum_33 : decode m_Matchmaker_leastSum.2.1 33 = .ok (.iload_n 2, 1) := by decide +kernel
theorem d_Matchmaker_leastSum_34 : decode m_Matchmaker_leastSum.2.1 34 = .ok (.iload_n 3, 1) := by decide +kernel
theorem d_Matchmaker_leastSum_35 : decode m_Matchmaker_leastSum.2.1 35 = .ok (.invokevirtual 56, 3) := by decide +kernel
theorem d_Matchmaker_leastSum_38 : decode m_Matchmaker_leastSum.2.1 38 = .ok (.goto 4, 3) := by decide +kernel
theorem d_Matchmaker_leastSum_41 : decode m_Matchmaker_leastSum.2.1 41 = .ok (.iconst 0, 1) := by decide +kernel
theorem d_Matchmaker_leastSum_42 : decode m_Matchmaker_leastSum.2.1 42 = .ok (.ireturn, 1) := by decide +kernel
theorem d_Matchmaker_sumUp_0 : decode m_Matchmaker_sumUp.2.1 0 = .ok (.iconst 1, 1) := by decide +kernel
theorem d_Matchmaker_sumUp_1 : decode m_Matchmaker_sumUp.2.1 1 = .ok (.istore_n 2, 1) := by decide +kernel
theorem d_Matchmaker_sumUp_2 : decode m_Matchmaker_sumUp.2.1 2 = .ok (.iload_n 2, 1) := by decide +kernel
theorem d_Matchmaker_sumUp_3 : decode m_Matchmaker_sumUp.2.1 3 = .ok (.iload_n 1, 1) := by decide +kernel
theorem d_Matchmaker_sumUp_4 : decode m_Matchmaker_sumUp.2.1 4 = .ok (.if_icmp .gt 37, 3) := by decide +kernel
theorem d_Matchmaker_sumUp_7 : decode m_Matchmaker_sumUp.2.1 7 = .ok (.iload_n 2, 1) := by decide +kernel
theorem d_Matchmaker_sumUp_8 : decode m_Matchmaker_sumUp.2.1 8 = .ok (.iload_n 1, 1) := by decide +kernel
theorem d_Matchmaker_sumUp_9 : decode m_Matchmaker_sumUp.2.1 9 = .ok (.iconst (-1), 1) := by decide +kernel
theorem d_Matchmaker_sumUp_10 : decode m_Matchmaker_sumUp.2.1 10 = .ok (.ixor, 1) := by decide +kernel
theorem d_Matchmaker_sumUp_11 : decode m_Matchmaker_sumUp.2.1 11 = .ok (.iand, 1) := by decide +kernel
theorem d_Matchmaker_sumUp_12 : decode m_Matchmaker_sumUp.2.1 12 = .ok (.ifCond .ne 23, 3) := by decide +kernel
theorem d_Matchmaker_sumUp_15 : decode m_Matchmaker_sumUp.2.1 15 = .ok (.iload_n 2, 1) := by decide +kernel
theorem d_Matchmaker_sumUp_16 : decode m_Matchmaker_sumUp.2.1 16 = .ok (.invokestatic 37, 3) := by decide +kernel
theorem d_Matchmaker_sumUp_19 : decode m_Matchmaker_sumUp.2.1 19 = .ok (.iconst 2, 1) := by decide +kernel
theorem d_Matchmaker_sumUp_20 : decode m_Matchmaker_sumUp.2.1 20 = .ok (.irem, 1) := by decide +kernel
theorem d_Matchmaker_sumUp_21 : decode m_Matchmaker_sumUp.2.1 21 = .ok (.ifCond .ne 14, 3) := by decide +kernel
theorem d_Matchmaker_sumUp_24 : decode m_Matchmaker_sumUp.2.1 24 = .ok (.aload_n 0, 1) := by decide +kernel
theorem d_Matchmaker_sumUp_25 : decode m_Matchmaker_sumUp.2.1 25 = .ok (.getfield 15, 3) := by decide +kernel
theorem d_Matchmaker_sumUp_28 : decode m_Matchmaker_sumUp.2.1 28 = .ok (.iload_n 2, 1) := by decide +kernel
theorem d_Matchmaker_sumUp_29 : decode m_Matchmaker_sumUp.2.1 29 = .ok (.aload_n 0, 1) := by decide +kernel
theorem d_Matchmaker_sumUp_30 : decode m_Matchmaker_sumUp.2.1 30 = .ok (.iload_n 2, 1) := by decide +kernel
theorem d_Matchmaker_sumUp_31 : decode m_Matchmaker_sumUp.2.1 31 = .ok (.invokevirtual 42, 3) := by decide +kernel
theorem d_Matchmaker_sumUp_34 : decode m_Matchmaker_sumUp.2.1 34 = .ok (.iastore, 1) := by decide +kernel
theorem d_Matchmaker_sumUp_35 : decode m_Matchmaker_sumUp.2.1 35 = .ok (.iinc 2 1, 3) := by decide +kernel
theorem d_Matchmaker_sumUp_38 : decode m_Matchmaker_sumUp.2.1 38 = .ok (.goto (-36), 3) := by decide +kernel
theorem d_Matchmaker_sumUp_41 : decode m_Matchmaker_sumUp.2.1 41 = .ok (.return_, 1) := by decide +kernel
theorem d_Matchmaker_sumWith_0 : decode m_Matchmaker_sumWith.2.1 0 = .ok (.aload_n 0, 1) := by decide +kernel
end
section
theorem d_Matchmaker_sumWith_1 : decode m_Matchmaker_sumWith.2.1 1 = .ok (.getfield 9, 3) := by decide +kernel
theorem d_Matchmaker_sumWith_4 : decode m_Matchmaker_sumWith.2.1 4 = .ok (.iload_n 2, 1) := by decide +kernel
theorem d_Matchmaker_sumWith_5 : decode m_Matchmaker_sumWith.2.1 5 = .ok (.iaload, 1) := by decide +kernel
theorem d_Matchmaker_sumWith_6 : decode m_Matchmaker_sumWith.2.1 6 = .ok (.aload_n 0, 1) := by decide +kernel
theorem d_Matchmaker_sumWith_7 : decode m_Matchmaker_sumWith.2.1 7 = .ok (.getfield 9, 3) := by decide +kernel
theorem d_Matchmaker_sumWith_10 : decode m_Matchmaker_sumWith.2.1 10 = .ok (.iload_n 3, 1) := by decide +kernel
theorem d_Matchmaker_sumWith_11 : decode m_Matchmaker_sumWith.2.1 11 = .ok (.iaload, 1) := by decide +kernel
theorem d_Matchmaker_sumWith_12 : decode m_Matchmaker_sumWith.2.1 12 = .ok (.ixor, 1) := by decide +kernel
theorem d_Matchmaker_sumWith_13 : decode m_Matchmaker_sumWith.2.1 13 = .ok (.invokestatic 37, 3) := by decide +kernel
theorem d_Matchmaker_sumWith_16 : decode m_Matchmaker_sumWith.2.1 16 = .ok (.istore 4, 2) := by decide +kernel
theorem d_Matchmaker_sumWith_18 : decode m_Matchmaker_sumWith.2.1 18 = .ok (.iload 4, 2) := by decide +kernel
theorem d_Matchmaker_sumWith_20 : decode m_Matchmaker_sumWith.2.1 20 = .ok (.aload_n 0, 1) := by decide +kernel
theorem d_Matchmaker_sumWith_21 : decode m_Matchmaker_sumWith.2.1 21 = .ok (.getfield 15, 3) := by decide +kernel
theorem d_Matchmaker_sumWith_24 : decode m_Matchmaker_sumWith.2.1 24 = .ok (.iload_n 1, 1) := by decide +kernel
theorem d_Matchmaker_sumWith_25 : decode m_Matchmaker_sumWith.2.1 25 = .ok (.iconst 1, 1) := by decide +kernel
theorem d_Matchmaker_sumWith_26 : decode m_Matchmaker_sumWith.2.1 26 = .ok (.iload_n 2, 1) := by decide +kernel
theorem d_Matchmaker_sumWith_27 : decode m_Matchmaker_sumWith.2.1 27 = .ok (.ishl, 1) := by decide +kernel
theorem d_Matchmaker_sumWith_28 : decode m_Matchmaker_sumWith.2.1 28 = .ok (.iconst (-1), 1) := by decide +kernel
theorem d_Matchmaker_sumWith_29 : decode m_Matchmaker_sumWith.2.1 29 = .ok (.ixor, 1) := by decide +kernel
theorem d_Matchmaker_sumWith_30 : decode m_Matchmaker_sumWith.2.1 30 = .ok (.iand, 1) := by decide +kernel
theorem d_Matchmaker_sumWith_31 : decode m_Matchmaker_sumWith.2.1 31 = .ok (.iconst 1, 1) := by decide +kernel
theorem d_Matchmaker_sumWith_32 : decode m_Matchmaker_sumWith.2.1 32 = .ok (.iload_n 3, 1) := by decide +kernel
theorem d_Matchmaker_sumWith_33 : decode m_Matchmaker_sumWith.2.1 33 = .ok (.ishl, 1) := by decide +kernel
theorem d_Matchmaker_sumWith_34 : decode m_Matchmaker_sumWith.2.1 34 = .ok (.iconst (-1), 1) := by decide +kernel
theorem d_Matchmaker_sumWith_35 : decode m_Matchmaker_sumWith.2.1 35 = .ok (.ixor, 1) := by decide +kernel
theorem d_Matchmaker_sumWith_36 : decode m_Matchmaker_sumWith.2.1 36 = .ok (.iand, 1) := by decide +kernel
theorem d_Matchmaker_sumWith_37 : decode m_Matchmaker_sumWith.2.1 37 = .ok (.iaload, 1) := by decide +kernel
theorem d_Matchmaker_sumWith_38 : decode m_Matchmaker_sumWith.2.1 38 = .ok (.iadd, 1) := by decide +kernel
theorem d_Matchmaker_sumWith_39 : decode m_Matchmaker_sumWith.2.1 39 = .ok (.ireturn, 1) := by decide +kernel
theorem d_O_book_0 : decode m_O_book.2.1 0 = .ok (.aload_n 0, 1) := by decide +kernel
theorem d_O_book_1 : decode m_O_book.2.1 1 = .ok (.getfield 19, 3) := by decide +kernel
theorem d_O_book_4 : decode m_O_book.2.1 4 = .ok (.aload_n 0, 1) := by decide +kernel
theorem d_O_book_5 : decode m_O_book.2.1 5 = .ok (.getfield 12, 3) := by decide +kernel
theorem d_O_book_8 : decode m_O_book.2.1 8 = .ok (.invokevirtual 70, 3) := by decide +kernel
theorem d_O_book_11 : decode m_O_book.2.1 11 = .ok (.bipush (-6), 2) := by decide +kernel
theorem d_O_book_13 : decode m_O_book.2.1 13 = .ok (.if_icmp .eq 6, 3) := by decide +kernel
theorem d_O_book_16 : decode m_O_book.2.1 16 = .ok (.bipush (-5), 2) := by decide +kernel
theorem d_O_book_18 : decode m_O_book.2.1 18 = .ok (.ireturn, 1) := by decide +kernel
theorem d_O_book_19 : decode m_O_book.2.1 19 = .ok (.aload_n 0, 1) := by decide +kernel
theorem d_O_book_20 : decode m_O_book.2.1 20 = .ok (.getfield 12, 3) := by decide +kernel
theorem d_O_book_23 : decode m_O_book.2.1 23 = .ok (.invokevirtual 66, 3) := by decide +kernel
theorem d_O_book_26 : decode m_O_book.2.1 26 = .ok (.pop, 1) := by decide +kernel
theorem d_O_book_27 : decode m_O_book.2.1 27 = .ok (.aload_n 0, 1) := by decide +kernel
theorem d_O_book_28 : decode m_O_book.2.1 28 = .ok (.getfield 26, 3) := by decide +kernel
theorem d_O_book_31 : decode m_O_book.2.1 31 = .ok (.aload_n 0, 1) := by decide +kernel
theorem d_O_book_32 : decode m_O_book.2.1 32 = .ok (.getfield 19, 3) := by decide +kernel
theorem d_O_book_35 : decode m_O_book.2.1 35 = .ok (.getfield 74, 3) := by decide +kernel
theorem d_O_book_38 : decode m_O_book.2.1 38 = .ok (.invokevirtual 78, 3) := by decide +kernel
theorem d_O_book_41 : decode m_O_book.2.1 41 = .ok (.aload_n 0, 1) := by decide +kernel
theorem d_O_book_42 : decode m_O_book.2.1 42 = .ok (.getfield 26, 3) := by decide +kernel
theorem d_O_book_45 : decode m_O_book.2.1 45 = .ok (.getfield 82, 3) := by decide +kernel
theorem d_O_book_48 : decode m_O_book.2.1 48 = .ok (.getfield 85, 3) := by decide +kernel
theorem d_O_book_51 : decode m_O_book.2.1 51 = .ok (.ireturn, 1) := by decide +kernel
theorem d_O_days_0 : decode m_O_days.2.1 0 = .ok (.iload_n 3, 1) := by decide +kernel
theorem d_O_days_1 : decode m_O_days.2.1 1 = .ok (.iconst (-1), 1) := by decide +kernel
theorem d_O_days_2 : decode m_O_days.2.1 2 = .ok (.if_icmp .eq 13, 3) := by decide +kernel
theorem d_O_days_5 : decode m_O_days.2.1 5 = .ok (.aload_n 0, 1) := by decide +kernel
theorem d_O_days_6 : decode m_O_days.2.1 6 = .ok (.iload_n 3, 1) := by decide +kernel
theorem d_O_days_7 : decode m_O_days.2.1 7 = .ok (.invokevirtual 91, 3) := by decide +kernel
theorem d_O_days_10 : decode m_O_days.2.1 10 = .ok (.ifCond .ne 5, 3) := by decide +kernel
theorem d_O_days_13 : decode m_O_days.2.1 13 = .ok (.iconst (-1), 1) := by decide +kernel
theorem d_O_days_14 : decode m_O_days.2.1 14 = .ok (.ireturn, 1) := by decide +kernel
theorem d_O_days_15 : decode m_O_days.2.1 15 = .ok (.iload_n 1, 1) := by decide +kernel
theorem d_O_days_16 : decode m_O_days.2.1 16 = .ok (.ifCond .lt 21, 3) := by decide +kernel
theorem d_O_days_19 : decode m_O_days.2.1 19 = .ok (.iload_n 1, 1) := by decide +kernel
theorem d_O_days_20 : decode m_O_days.2.1 20 = .ok (.sipush 9999, 3) := by decide +kernel
theorem d_O_days_23 : decode m_O_days.2.1 23 = .ok (.if_icmp .gt 14, 3) := by decide +kernel
theorem d_O_days_26 : decode m_O_days.2.1 26 = .ok (.iload_n 2, 1) := by decide +kernel
theorem d_O_days_27 : decode m_O_days.2.1 27 = .ok (.iconst 1, 1) := by decide +kernel
theorem d_O_days_28 : decode m_O_days.2.1 28 = .ok (.if_icmp .lt 9, 3) := by decide +kernel
theorem d_O_days_31 : decode m_O_days.2.1 31 = .ok (.iload_n 2, 1) := by decide +kernel
theorem d_O_days_32 : decode m_O_days.2.1 32 = .ok (.bipush 99, 2) := by decide +kernel
theorem d_O_days_34 : decode m_O_days.2.1 34 = .ok (.if_icmp .le 6, 3) := by decide +kernel
theorem d_O_days_37 : decode m_O_days.2.1 37 = .ok (.bipush (-2), 2) := by decide +kernel
theorem d_O_days_39 : decode m_O_days.2.1 39 = .ok (.ireturn, 1) := by decide +kernel
theorem d_O_days_40 : decode m_O_days.2.1 40 = .ok (.aload_n 0, 1) := by decide +kernel
theorem d_O_days_41 : decode m_O_days.2.1 41 = .ok (.getfield 51, 3) := by decide +kernel
theorem d_O_days_44 : decode m_O_days.2.1 44 = .ok (.aload_n 0, 1) := by decide +kernel
theorem d_O_days_45 : decode m_O_days.2.1 45 = .ok (.getfield 26, 3) := by decide +kernel
theorem d_O_days_48 : decode m_O_days.2.1 48 = .ok (.invokevirtual 186, 3) := by decide +kernel
theorem d_O_days_51 : decode m_O_days.2.1 51 = .ok (.aload_n 0, 1) := by decide +kernel
theorem d_O_days_52 : decode m_O_days.2.1 52 = .ok (.getfield 51, 3) := by decide +kernel
theorem d_O_days_55 : decode m_O_days.2.1 55 = .ok (.iload_n 1, 1) := by decide +kernel
theorem d_O_days_56 : decode m_O_days.2.1 56 = .ok (.iload_n 2, 1) := by decide +kernel
theorem d_O_days_57 : decode m_O_days.2.1 57 = .ok (.invokevirtual 226, 3) := by decide +kernel
theorem d_O_days_60 : decode m_O_days.2.1 60 = .ok (.istore 4, 2) := by decide +kernel
theorem d_O_days_62 : decode m_O_days.2.1 62 = .ok (.iload_n 3, 1) := by decide +kernel
theorem d_O_days_63 : decode m_O_days.2.1 63 = .ok (.iconst (-1), 1) := by decide +kernel
theorem d_O_days_64 : decode m_O_days.2.1 64 = .ok (.if_icmp .ne 8, 3) := by decide +kernel
theorem d_O_days_67 : decode m_O_days.2.1 67 = .ok (.iload 4, 2) := by decide +kernel
theorem d_O_days_69 : decode m_O_days.2.1 69 = .ok (.goto 12, 3) := by decide +kernel
theorem d_O_days_72 : decode m_O_days.2.1 72 = .ok (.aload_n 0, 1) := by decide +kernel
theorem d_O_days_73 : decode m_O_days.2.1 73 = .ok (.getfield 51, 3) := by decide +kernel
theorem d_O_days_76 : decode m_O_days.2.1 76 = .ok (.getfield 229, 3) := by decide +kernel
theorem d_O_days_79 : decode m_O_days.2.1 79 = .ok (.iload_n 3, 1) := by decide +kernel
theorem d_O_days_80 : decode m_O_days.2.1 80 = .ok (.iaload, 1) := by decide +kernel
theorem d_O_days_81 : decode m_O_days.2.1 81 = .ok (.ireturn, 1) := by decide +kernel
theorem d_O_fault_0 : decode m_O_fault.2.1 0 = .ok (.aload_n 0, 1) := by decide +kernel
theorem d_O_fault_1 : decode m_O_fault.2.1 1 = .ok (.getfield 19, 3) := by decide +kernel
theorem d_O_fault_4 : decode m_O_fault.2.1 4 = .ok (.aload_n 0, 1) := by decide +kernel
theorem d_O_fault_5 : decode m_O_fault.2.1 5 = .ok (.getfield 12, 3) := by decide +kernel
theorem d_O_fault_8 : decode m_O_fault.2.1 8 = .ok (.invokevirtual 70, 3) := by decide +kernel
theorem d_O_fault_11 : decode m_O_fault.2.1 11 = .ok (.ireturn, 1) := by decide +kernel
theorem d_O_fed_0 : decode m_O_fed.2.1 0 = .ok (.aload_n 0, 1) := by decide +kernel
theorem d_O_fed_1 : decode m_O_fed.2.1 1 = .ok (.getfield 51, 3) := by decide +kernel
theorem d_O_fed_4 : decode m_O_fed.2.1 4 = .ok (.aload_n 0, 1) := by decide +kernel
theorem d_O_fed_5 : decode m_O_fed.2.1 5 = .ok (.getfield 26, 3) := by decide +kernel
theorem d_O_fed_8 : decode m_O_fed.2.1 8 = .ok (.invokevirtual 186, 3) := by decide +kernel
theorem d_O_fed_11 : decode m_O_fed.2.1 11 = .ok (.aload_n 0, 1) := by decide +kernel
theorem d_O_fed_12 : decode m_O_fed.2.1 12 = .ok (.getfield 51, 3) := by decide +kernel
theorem d_O_fed_15 : decode m_O_fed.2.1 15 = .ok (.invokevirtual 189, 3) := by decide +kernel
theorem d_O_fed_18 : decode m_O_fed.2.1 18 = .ok (.istore_n 2, 1) := by decide +kernel
theorem d_O_fed_19 : decode m_O_fed.2.1 19 = .ok (.iload_n 1, 1) := by decide +kernel
theorem d_O_fed_20 : decode m_O_fed.2.1 20 = .ok (.iconst (-1), 1) := by decide +kernel
theorem d_O_fed_21 : decode m_O_fed.2.1 21 = .ok (.if_icmp .ne 5, 3) := by decide +kernel
theorem d_O_fed_24 : decode m_O_fed.2.1 24 = .ok (.iload_n 2, 1) := by decide +kernel
theorem d_O_fed_25 : decode m_O_fed.2.1 25 = .ok (.ireturn, 1) := by decide +kernel
theorem d_O_fed_26 : decode m_O_fed.2.1 26 = .ok (.iload_n 1, 1) := by decide +kernel
theorem d_O_fed_27 : decode m_O_fed.2.1 27 = .ok (.invokestatic 111, 3) := by decide +kernel
theorem d_O_fed_30 : decode m_O_fed.2.1 30 = .ok (.ifCond .eq 15, 3) := by decide +kernel
theorem d_O_fed_33 : decode m_O_fed.2.1 33 = .ok (.aload_n 0, 1) := by decide +kernel
theorem d_O_fed_34 : decode m_O_fed.2.1 34 = .ok (.getfield 51, 3) := by decide +kernel
theorem d_O_fed_37 : decode m_O_fed.2.1 37 = .ok (.getfield 192, 3) := by decide +kernel
theorem d_O_fed_40 : decode m_O_fed.2.1 40 = .ok (.iload_n 1, 1) := by decide +kernel
theorem d_O_fed_41 : decode m_O_fed.2.1 41 = .ok (.iaload, 1) := by decide +kernel
theorem d_O_fed_42 : decode m_O_fed.2.1 42 = .ok (.goto 5, 3) := by decide +kernel
theorem d_O_fed_45 : decode m_O_fed.2.1 45 = .ok (.bipush (-6), 2) := by decide +kernel
theorem d_O_fed_47 : decode m_O_fed.2.1 47 = .ok (.ireturn, 1) := by decide +kernel
theorem d_O_filled_0 : decode m_O_filled.2.1 0 = .ok (.aload_n 0, 1) := by decide +kernel
theorem d_O_filled_1 : decode m_O_filled.2.1 1 = .ok (.getfield 44, 3) := by decide +kernel
theorem d_O_filled_4 : decode m_O_filled.2.1 4 = .ok (.aload_n 0, 1) := by decide +kernel
theorem d_O_filled_5 : decode m_O_filled.2.1 5 = .ok (.getfield 26, 3) := by decide +kernel
theorem d_O_filled_8 : decode m_O_filled.2.1 8 = .ok (.invokevirtual 169, 3) := by decide +kernel
theorem d_O_filled_11 : decode m_O_filled.2.1 11 = .ok (.iload_n 1, 1) := by decide +kernel
theorem d_O_filled_12 : decode m_O_filled.2.1 12 = .ok (.iconst (-1), 1) := by decide +kernel
theorem d_O_filled_13 : decode m_O_filled.2.1 13 = .ok (.if_icmp .ne 11, 3) := by decide +kernel
theorem d_O_filled_16 : decode m_O_filled.2.1 16 = .ok (.aload_n 0, 1) := by decide +kernel
theorem d_O_filled_17 : decode m_O_filled.2.1 17 = .ok (.getfield 44, 3) := by decide +kernel
theorem d_O_filled_20 : decode m_O_filled.2.1 20 = .ok (.invokevirtual 173, 3) := by decide +kernel
theorem d_O_filled_23 : decode m_O_filled.2.1 23 = .ok (.ireturn, 1) := by decide +kernel
theorem d_O_filled_24 : decode m_O_filled.2.1 24 = .ok (.aload_n 0, 1) := by decide +kernel
theorem d_O_filled_25 : decode m_O_filled.2.1 25 = .ok (.getfield 44, 3) := by decide +kernel
theorem d_O_filled_28 : decode m_O_filled.2.1 28 = .ok (.iload_n 1, 1) := by decide +kernel
theorem d_O_filled_29 : decode m_O_filled.2.1 29 = .ok (.invokevirtual 176, 3) := by decide +kernel
theorem d_O_filled_32 : decode m_O_filled.2.1 32 = .ok (.ireturn, 1) := by decide +kernel
theorem d_O_forget_0 : decode m_O_forget.2.1 0 = .ok (.aload_n 0, 1) := by decide +kernel
theorem d_O_forget_1 : decode m_O_forget.2.1 1 = .ok (.getfield 26, 3) := by decide +kernel
theorem d_O_forget_4 : decode m_O_forget.2.1 4 = .ok (.invokevirtual 166, 3) := by decide +kernel
theorem d_O_forget_7 : decode m_O_forget.2.1 7 = .ok (.ireturn, 1) := by decide +kernel
theorem d_O_has_0 : decode m_O_has.2.1 0 = .ok (.iload_n 0, 1) := by decide +kernel
theorem d_O_has_1 : decode m_O_has.2.1 1 = .ok (.iload_n 1, 1) := by decide +kernel
theorem d_O_has_2 : decode m_O_has.2.1 2 = .ok (.ishr, 1) := by decide +kernel
theorem d_O_has_3 : decode m_O_has.2.1 3 = .ok (.iconst 1, 1) := by decide +kernel
theorem d_O_has_4 : decode m_O_has.2.1 4 = .ok (.iand, 1) := by decide +kernel
theorem d_O_has_5 : decode m_O_has.2.1 5 = .ok (.ifCond .eq 7, 3) := by decide +kernel
theorem d_O_has_8 : decode m_O_has.2.1 8 = .ok (.iconst 1, 1) := by decide +kernel
theorem d_O_has_9 : decode m_O_has.2.1 9 = .ok (.goto 4, 3) := by decide +kernel
theorem d_O_has_12 : decode m_O_has.2.1 12 = .ok (.iconst 0, 1) := by decide +kernel
theorem d_O_has_13 : decode m_O_has.2.1 13 = .ok (.ireturn, 1) := by decide +kernel
theorem d_O_image_0 : decode m_O_image.2.1 0 = .ok (.iload_n 1, 1) := by decide +kernel
theorem d_O_image_1 : decode m_O_image.2.1 1 = .ok (.ifCond .lt 8, 3) := by decide +kernel
theorem d_O_image_4 : decode m_O_image.2.1 4 = .ok (.iload_n 1, 1) := by decide +kernel
theorem d_O_image_5 : decode m_O_image.2.1 5 = .ok (.iconst 2, 1) := by decide +kernel
theorem d_O_image_6 : decode m_O_image.2.1 6 = .ok (.if_icmp .lt 6, 3) := by decide +kernel
theorem d_O_image_9 : decode m_O_image.2.1 9 = .ok (.bipush (-2), 2) := by decide +kernel
theorem d_O_image_11 : decode m_O_image.2.1 11 = .ok (.ireturn, 1) := by decide +kernel
theorem d_O_image_12 : decode m_O_image.2.1 12 = .ok (.aload_n 0, 1) := by decide +kernel
theorem d_O_image_13 : decode m_O_image.2.1 13 = .ok (.getfield 30, 3) := by decide +kernel
theorem d_O_image_16 : decode m_O_image.2.1 16 = .ok (.iload_n 1, 1) := by decide +kernel
theorem d_O_image_17 : decode m_O_image.2.1 17 = .ok (.aaload, 1) := by decide +kernel
theorem d_O_image_18 : decode m_O_image.2.1 18 = .ok (.astore_n 2, 1) := by decide +kernel
theorem d_O_image_19 : decode m_O_image.2.1 19 = .ok (.aload_n 2, 1) := by decide +kernel
theorem d_O_image_20 : decode m_O_image.2.1 20 = .ok (.ifnonnull 18, 3) := by decide +kernel
theorem d_O_image_23 : decode m_O_image.2.1 23 = .ok (.new 23, 3) := by decide +kernel
theorem d_O_image_26 : decode m_O_image.2.1 26 = .ok (.dup, 1) := by decide +kernel
theorem d_O_image_27 : decode m_O_image.2.1 27 = .ok (.invokespecial 25, 3) := by decide +kernel
theorem d_O_image_30 : decode m_O_image.2.1 30 = .ok (.astore_n 2, 1) := by decide +kernel
theorem d_O_image_31 : decode m_O_image.2.1 31 = .ok (.aload_n 0, 1) := by decide +kernel
theorem d_O_image_32 : decode m_O_image.2.1 32 = .ok (.getfield 30, 3) := by decide +kernel
theorem d_O_image_35 : decode m_O_image.2.1 35 = .ok (.iload_n 1, 1) := by decide +kernel
theorem d_O_image_36 : decode m_O_image.2.1 36 = .ok (.aload_n 2, 1) := by decide +kernel
theorem d_O_image_37 : decode m_O_image.2.1 37 = .ok (.aastore, 1) := by decide +kernel
theorem d_O_image_38 : decode m_O_image.2.1 38 = .ok (.aload_n 2, 1) := by decide +kernel
theorem d_O_image_39 : decode m_O_image.2.1 39 = .ok (.aload_n 0, 1) := by decide +kernel
theorem d_O_image_40 : decode m_O_image.2.1 40 = .ok (.getfield 26, 3) := by decide +kernel
theorem d_O_image_43 : decode m_O_image.2.1 43 = .ok (.invokevirtual 232, 3) := by decide +kernel
theorem d_O_image_46 : decode m_O_image.2.1 46 = .ok (.iconst 1, 1) := by decide +kernel
theorem d_O_image_47 : decode m_O_image.2.1 47 = .ok (.ireturn, 1) := by decide +kernel
theorem d_O_init_0 : decode m_O_init.2.1 0 = .ok (.aload_n 0, 1) := by decide +kernel
theorem d_O_init_1 : decode m_O_init.2.1 1 = .ok (.invokespecial 3, 3) := by decide +kernel
theorem d_O_init_4 : decode m_O_init.2.1 4 = .ok (.aload_n 0, 1) := by decide +kernel
theorem d_O_init_5 : decode m_O_init.2.1 5 = .ok (.new 9, 3) := by decide +kernel
theorem d_O_init_8 : decode m_O_init.2.1 8 = .ok (.dup, 1) := by decide +kernel
theorem d_O_init_9 : decode m_O_init.2.1 9 = .ok (.invokespecial 11, 3) := by decide +kernel
theorem d_O_init_12 : decode m_O_init.2.1 12 = .ok (.putfield 12, 3) := by decide +kernel
theorem d_O_init_15 : decode m_O_init.2.1 15 = .ok (.aload_n 0, 1) := by decide +kernel
theorem d_O_init_16 : decode m_O_init.2.1 16 = .ok (.new 16, 3) := by decide +kernel
theorem d_O_init_19 : decode m_O_init.2.1 19 = .ok (.dup, 1) := by decide +kernel
theorem d_O_init_20 : decode m_O_init.2.1 20 = .ok (.invokespecial 18, 3) := by decide +kernel
theorem d_O_init_23 : decode m_O_init.2.1 23 = .ok (.putfield 19, 3) := by decide +kernel
theorem d_O_init_26 : decode m_O_init.2.1 26 = .ok (.aload_n 0, 1) := by decide +kernel
theorem d_O_init_27 : decode m_O_init.2.1 27 = .ok (.new 23, 3) := by decide +kernel
theorem d_O_init_30 : decode m_O_init.2.1 30 = .ok (.dup, 1) := by decide +kernel
theorem d_O_init_31 : decode m_O_init.2.1 31 = .ok (.invokespecial 25, 3) := by decide +kernel
theorem d_O_init_34 : decode m_O_init.2.1 34 = .ok (.putfield 26, 3) := by decide +kernel
theorem d_O_init_37 : decode m_O_init.2.1 37 = .ok (.aload_n 0, 1) := by decide +kernel
theorem d_O_init_38 : decode m_O_init.2.1 38 = .ok (.iconst 2, 1) := by decide +kernel
theorem d_O_init_39 : decode m_O_init.2.1 39 = .ok (.anewarray 23, 3) := by decide +kernel
theorem d_O_init_42 : decode m_O_init.2.1 42 = .ok (.putfield 30, 3) := by decide +kernel
theorem d_O_init_45 : decode m_O_init.2.1 45 = .ok (.aload_n 0, 1) := by decide +kernel
theorem d_O_init_46 : decode m_O_init.2.1 46 = .ok (.new 34, 3) := by decide +kernel
theorem d_O_init_49 : decode m_O_init.2.1 49 = .ok (.dup, 1) := by decide +kernel
theorem d_O_init_50 : decode m_O_init.2.1 50 = .ok (.invokespecial 36, 3) := by decide +kernel
theorem d_O_init_53 : decode m_O_init.2.1 53 = .ok (.putfield 37, 3) := by decide +kernel
theorem d_O_init_56 : decode m_O_init.2.1 56 = .ok (.aload_n 0, 1) := by decide +kernel
theorem d_O_init_57 : decode m_O_init.2.1 57 = .ok (.new 41, 3) := by decide +kernel
theorem d_O_init_60 : decode m_O_init.2.1 60 = .ok (.dup, 1) := by decide +kernel
theorem d_O_init_61 : decode m_O_init.2.1 61 = .ok (.invokespecial 43, 3) := by decide +kernel
theorem d_O_init_64 : decode m_O_init.2.1 64 = .ok (.putfield 44, 3) := by decide +kernel
theorem d_O_init_67 : decode m_O_init.2.1 67 = .ok (.aload_n 0, 1) := by decide +kernel
theorem d_O_init_68 : decode m_O_init.2.1 68 = .ok (.new 48, 3) := by decide +kernel
theorem d_O_init_71 : decode m_O_init.2.1 71 = .ok (.dup, 1) := by decide +kernel
theorem d_O_init_72 : decode m_O_init.2.1 72 = .ok (.invokespecial 50, 3) := by decide +kernel
theorem d_O_init_75 : decode m_O_init.2.1 75 = .ok (.putfield 51, 3) := by decide +kernel
theorem d_O_init_78 : decode m_O_init.2.1 78 = .ok (.aload_n 0, 1) := by decide +kernel
theorem d_O_init_79 : decode m_O_init.2.1 79 = .ok (.new 55, 3) := by decide +kernel
theorem d_O_init_82 : decode m_O_init.2.1 82 = .ok (.dup, 1) := by decide +kernel
theorem d_O_init_83 : decode m_O_init.2.1 83 = .ok (.invokespecial 57, 3) := by decide +kernel
theorem d_O_init_86 : decode m_O_init.2.1 86 = .ok (.putfield 58, 3) := by decide +kernel
theorem d_O_init_89 : decode m_O_init.2.1 89 = .ok (.return_, 1) := by decide +kernel
theorem d_O_isMan_0 : decode m_O_isMan.2.1 0 = .ok (.iload_n 0, 1) := by decide +kernel
theorem d_O_isMan_1 : decode m_O_isMan.2.1 1 = .ok (.ifCond .lt 13, 3) := by decide +kernel
theorem d_O_isMan_4 : decode m_O_isMan.2.1 4 = .ok (.iload_n 0, 1) := by decide +kernel
theorem d_O_isMan_5 : decode m_O_isMan.2.1 5 = .ok (.bipush 6, 2) := by decide +kernel
theorem d_O_isMan_7 : decode m_O_isMan.2.1 7 = .ok (.if_icmp .ge 7, 3) := by decide +kernel
theorem d_O_isMan_10 : decode m_O_isMan.2.1 10 = .ok (.iconst 1, 1) := by decide +kernel
theorem d_O_isMan_11 : decode m_O_isMan.2.1 11 = .ok (.goto 4, 3) := by decide +kernel
theorem d_O_isMan_14 : decode m_O_isMan.2.1 14 = .ok (.iconst 0, 1) := by decide +kernel
theorem d_O_isMan_15 : decode m_O_isMan.2.1 15 = .ok (.ireturn, 1) := by decide +kernel
theorem d_O_isThing_0 : decode m_O_isThing.2.1 0 = .ok (.iload_n 1, 1) := by decide +kernel
theorem d_O_isThing_1 : decode m_O_isThing.2.1 1 = .ok (.ifCond .lt 21, 3) := by decide +kernel
theorem d_O_isThing_4 : decode m_O_isThing.2.1 4 = .ok (.iload_n 1, 1) := by decide +kernel
theorem d_O_isThing_5 : decode m_O_isThing.2.1 5 = .ok (.aload_n 0, 1) := by decide +kernel
theorem d_O_isThing_6 : decode m_O_isThing.2.1 6 = .ok (.getfield 26, 3) := by decide +kernel
theorem d_O_isThing_9 : decode m_O_isThing.2.1 9 = .ok (.getfield 82, 3) := by decide +kernel
theorem d_O_isThing_12 : decode m_O_isThing.2.1 12 = .ok (.getfield 85, 3) := by decide +kernel
theorem d_O_isThing_15 : decode m_O_isThing.2.1 15 = .ok (.if_icmp .ge 7, 3) := by decide +kernel
theorem d_O_isThing_18 : decode m_O_isThing.2.1 18 = .ok (.iconst 1, 1) := by decide +kernel
theorem d_O_isThing_19 : decode m_O_isThing.2.1 19 = .ok (.goto 4, 3) := by decide +kernel
theorem d_O_isThing_22 : decode m_O_isThing.2.1 22 = .ok (.iconst 0, 1) := by decide +kernel
theorem d_O_isThing_23 : decode m_O_isThing.2.1 23 = .ok (.ireturn, 1) := by decide +kernel
theorem d_O_join_0 : decode m_O_join.2.1 0 = .ok (.iload_n 1, 1) := by decide +kernel
theorem d_O_join_1 : decode m_O_join.2.1 1 = .ok (.invokestatic 111, 3) := by decide +kernel
theorem d_O_join_4 : decode m_O_join.2.1 4 = .ok (.ifCond .eq 15, 3) := by decide +kernel
theorem d_O_join_7 : decode m_O_join.2.1 7 = .ok (.iload_n 2, 1) := by decide +kernel
theorem d_O_join_8 : decode m_O_join.2.1 8 = .ok (.invokestatic 111, 3) := by decide +kernel
theorem d_O_join_11 : decode m_O_join.2.1 11 = .ok (.ifCond .eq 8, 3) := by decide +kernel
theorem d_O_join_14 : decode m_O_join.2.1 14 = .ok (.iload_n 1, 1) := by decide +kernel
theorem d_O_join_15 : decode m_O_join.2.1 15 = .ok (.iload_n 2, 1) := by decide +kernel
theorem d_O_join_16 : decode m_O_join.2.1 16 = .ok (.if_icmp .ne 5, 3) := by decide +kernel
theorem d_O_join_19 : decode m_O_join.2.1 19 = .ok (.iconst (-1), 1) := by decide +kernel
theorem d_O_join_20 : decode m_O_join.2.1 20 = .ok (.ireturn, 1) := by decide +kernel
theorem d_O_join_21 : decode m_O_join.2.1 21 = .ok (.aload_n 0, 1) := by decide +kernel
theorem d_O_join_22 : decode m_O_join.2.1 22 = .ok (.getfield 26, 3) := by decide +kernel
theorem d_O_join_25 : decode m_O_join.2.1 25 = .ok (.getfield 114, 3) := by decide +kernel
theorem d_O_join_28 : decode m_O_join.2.1 28 = .ok (.iload_n 1, 1) := by decide +kernel
theorem d_O_join_29 : decode m_O_join.2.1 29 = .ok (.iaload, 1) := by decide +kernel
theorem d_O_join_30 : decode m_O_join.2.1 30 = .ok (.bipush (-6), 2) := by decide +kernel
theorem d_O_join_32 : decode m_O_join.2.1 32 = .ok (.if_icmp .ne 17, 3) := by decide +kernel
theorem d_O_join_35 : decode m_O_join.2.1 35 = .ok (.aload_n 0, 1) := by decide +kernel
theorem d_O_join_36 : decode m_O_join.2.1 36 = .ok (.getfield 26, 3) := by decide +kernel
theorem d_O_join_39 : decode m_O_join.2.1 39 = .ok (.getfield 114, 3) := by decide +kernel
theorem d_O_join_42 : decode m_O_join.2.1 42 = .ok (.iload_n 2, 1) := by decide +kernel
theorem d_O_join_43 : decode m_O_join.2.1 43 = .ok (.iaload, 1) := by decide +kernel
theorem d_O_join_44 : decode m_O_join.2.1 44 = .ok (.bipush (-6), 2) := by decide +kernel
theorem d_O_join_46 : decode m_O_join.2.1 46 = .ok (.if_icmp .eq 6, 3) := by decide +kernel
theorem d_O_join_49 : decode m_O_join.2.1 49 = .ok (.bipush (-3), 2) := by decide +kernel
theorem d_O_join_51 : decode m_O_join.2.1 51 = .ok (.ireturn, 1) := by decide +kernel
theorem d_O_join_52 : decode m_O_join.2.1 52 = .ok (.aload_n 0, 1) := by decide +kernel
theorem d_O_join_53 : decode m_O_join.2.1 53 = .ok (.getfield 26, 3) := by decide +kernel
theorem d_O_join_56 : decode m_O_join.2.1 56 = .ok (.getfield 114, 3) := by decide +kernel
theorem d_O_join_59 : decode m_O_join.2.1 59 = .ok (.iload_n 1, 1) := by decide +kernel
theorem d_O_join_60 : decode m_O_join.2.1 60 = .ok (.iload_n 2, 1) := by decide +kernel
theorem d_O_join_61 : decode m_O_join.2.1 61 = .ok (.iastore, 1) := by decide +kernel
theorem d_O_join_62 : decode m_O_join.2.1 62 = .ok (.aload_n 0, 1) := by decide +kernel
theorem d_O_join_63 : decode m_O_join.2.1 63 = .ok (.getfield 26, 3) := by decide +kernel
theorem d_O_join_66 : decode m_O_join.2.1 66 = .ok (.getfield 114, 3) := by decide +kernel
theorem d_O_join_69 : decode m_O_join.2.1 69 = .ok (.iload_n 2, 1) := by decide +kernel
theorem d_O_join_70 : decode m_O_join.2.1 70 = .ok (.iload_n 1, 1) := by decide +kernel
theorem d_O_join_71 : decode m_O_join.2.1 71 = .ok (.iastore, 1) := by decide +kernel
theorem d_O_join_72 : decode m_O_join.2.1 72 = .ok (.iconst 1, 1) := by decide +kernel
theorem d_O_join_73 : decode m_O_join.2.1 73 = .ok (.ireturn, 1) := by decide +kernel
theorem d_O_lack_0 : decode m_O_lack.2.1 0 = .ok (.aload_n 0, 1) := by decide +kernel
theorem d_O_lack_1 : decode m_O_lack.2.1 1 = .ok (.getfield 51, 3) := by decide +kernel
theorem d_O_lack_4 : decode m_O_lack.2.1 4 = .ok (.aload_n 0, 1) := by decide +kernel
theorem d_O_lack_5 : decode m_O_lack.2.1 5 = .ok (.getfield 26, 3) := by decide +kernel
theorem d_O_lack_8 : decode m_O_lack.2.1 8 = .ok (.invokevirtual 186, 3) := by decide +kernel
theorem d_O_lack_11 : decode m_O_lack.2.1 11 = .ok (.aload_n 0, 1) := by decide +kernel
theorem d_O_lack_12 : decode m_O_lack.2.1 12 = .ok (.getfield 51, 3) := by decide +kernel
theorem d_O_lack_15 : decode m_O_lack.2.1 15 = .ok (.invokevirtual 195, 3) := by decide +kernel
theorem d_O_lack_18 : decode m_O_lack.2.1 18 = .ok (.ireturn, 1) := by decide +kernel
theorem d_O_leastOf_0 : decode m_O_leastOf.2.1 0 = .ok (.iconst 0, 1) := by decide +kernel
theorem d_O_leastOf_1 : decode m_O_leastOf.2.1 1 = .ok (.istore_n 1, 1) := by decide +kernel
theorem d_O_leastOf_2 : decode m_O_leastOf.2.1 2 = .ok (.iload_n 1, 1) := by decide +kernel
theorem d_O_leastOf_3 : decode m_O_leastOf.2.1 3 = .ok (.bipush 10, 2) := by decide +kernel
theorem d_O_leastOf_5 : decode m_O_leastOf.2.1 5 = .ok (.if_icmp .ge 19, 3) := by decide +kernel
theorem d_O_leastOf_8 : decode m_O_leastOf.2.1 8 = .ok (.iload_n 0, 1) := by decide +kernel
theorem d_O_leastOf_9 : decode m_O_leastOf.2.1 9 = .ok (.iload_n 1, 1) := by decide +kernel
theorem d_O_leastOf_10 : decode m_O_leastOf.2.1 10 = .ok (.invokestatic 242, 3) := by decide +kernel
theorem d_O_leastOf_13 : decode m_O_leastOf.2.1 13 = .ok (.ifCond .eq 5, 3) := by decide +kernel
theorem d_O_leastOf_16 : decode m_O_leastOf.2.1 16 = .ok (.iload_n 1, 1) := by decide +kernel
theorem d_O_leastOf_17 : decode m_O_leastOf.2.1 17 = .ok (.ireturn, 1) := by decide +kernel
theorem d_O_leastOf_18 : decode m_O_leastOf.2.1 18 = .ok (.iinc 1 1, 3) := by decide +kernel
theorem d_O_leastOf_21 : decode m_O_leastOf.2.1 21 = .ok (.goto (-19), 3) := by decide +kernel
theorem d_O_leastOf_24 : decode m_O_leastOf.2.1 24 = .ok (.bipush (-6), 2) := by decide +kernel
theorem d_O_leastOf_26 : decode m_O_leastOf.2.1 26 = .ok (.ireturn, 1) := by decide +kernel
theorem d_O_loaves_0 : decode m_O_loaves.2.1 0 = .ok (.aload_n 0, 1) := by decide +kernel
theorem d_O_loaves_1 : decode m_O_loaves.2.1 1 = .ok (.iload_n 1, 1) := by decide +kernel
theorem d_O_loaves_2 : decode m_O_loaves.2.1 2 = .ok (.invokevirtual 91, 3) := by decide +kernel
theorem d_O_loaves_5 : decode m_O_loaves.2.1 5 = .ok (.ifCond .ne 5, 3) := by decide +kernel
theorem d_O_loaves_8 : decode m_O_loaves.2.1 8 = .ok (.iconst (-1), 1) := by decide +kernel
theorem d_O_loaves_9 : decode m_O_loaves.2.1 9 = .ok (.ireturn, 1) := by decide +kernel
theorem d_O_loaves_10 : decode m_O_loaves.2.1 10 = .ok (.iload_n 2, 1) := by decide +kernel
theorem d_O_loaves_11 : decode m_O_loaves.2.1 11 = .ok (.ifCond .lt 9, 3) := by decide +kernel
theorem d_O_loaves_14 : decode m_O_loaves.2.1 14 = .ok (.iload_n 2, 1) := by decide +kernel
theorem d_O_loaves_15 : decode m_O_loaves.2.1 15 = .ok (.bipush 9, 2) := by decide +kernel
theorem d_O_loaves_17 : decode m_O_loaves.2.1 17 = .ok (.if_icmp .le 6, 3) := by decide +kernel
theorem d_O_loaves_20 : decode m_O_loaves.2.1 20 = .ok (.bipush (-2), 2) := by decide +kernel
theorem d_O_loaves_22 : decode m_O_loaves.2.1 22 = .ok (.ireturn, 1) := by decide +kernel
theorem d_O_loaves_23 : decode m_O_loaves.2.1 23 = .ok (.aload_n 0, 1) := by decide +kernel
theorem d_O_loaves_24 : decode m_O_loaves.2.1 24 = .ok (.getfield 26, 3) := by decide +kernel
theorem d_O_loaves_27 : decode m_O_loaves.2.1 27 = .ok (.getfield 124, 3) := by decide +kernel
theorem d_O_loaves_30 : decode m_O_loaves.2.1 30 = .ok (.iload_n 1, 1) := by decide +kernel
theorem d_O_loaves_31 : decode m_O_loaves.2.1 31 = .ok (.iaload, 1) := by decide +kernel
theorem d_O_loaves_32 : decode m_O_loaves.2.1 32 = .ok (.istore_n 3, 1) := by decide +kernel
theorem d_O_loaves_33 : decode m_O_loaves.2.1 33 = .ok (.aload_n 0, 1) := by decide +kernel
theorem d_O_loaves_34 : decode m_O_loaves.2.1 34 = .ok (.getfield 26, 3) := by decide +kernel
theorem d_O_loaves_37 : decode m_O_loaves.2.1 37 = .ok (.getfield 124, 3) := by decide +kernel
theorem d_O_loaves_40 : decode m_O_loaves.2.1 40 = .ok (.iload_n 1, 1) := by decide +kernel
theorem d_O_loaves_41 : decode m_O_loaves.2.1 41 = .ok (.iload_n 2, 1) := by decide +kernel
theorem d_O_loaves_42 : decode m_O_loaves.2.1 42 = .ok (.iastore, 1) := by decide +kernel
theorem d_O_loaves_43 : decode m_O_loaves.2.1 43 = .ok (.iload_n 3, 1) := by decide +kernel
theorem d_O_loaves_44 : decode m_O_loaves.2.1 44 = .ok (.ireturn, 1) := by decide +kernel
theorem d_O_makers_0 : decode m_O_makers.2.1 0 = .ok (.iload_n 1, 1) := by decide +kernel
theorem d_O_makers_1 : decode m_O_makers.2.1 1 = .ok (.iconst 1, 1) := by decide +kernel
theorem d_O_makers_2 : decode m_O_makers.2.1 2 = .ok (.if_icmp .lt 18, 3) := by decide +kernel
theorem d_O_makers_5 : decode m_O_makers.2.1 5 = .ok (.iload_n 1, 1) := by decide +kernel
theorem d_O_makers_6 : decode m_O_makers.2.1 6 = .ok (.bipush 6, 2) := by decide +kernel
theorem d_O_makers_8 : decode m_O_makers.2.1 8 = .ok (.if_icmp .gt 12, 3) := by decide +kernel
theorem d_O_makers_11 : decode m_O_makers.2.1 11 = .ok (.iload_n 2, 1) := by decide +kernel
theorem d_O_makers_12 : decode m_O_makers.2.1 12 = .ok (.ifCond .lt 8, 3) := by decide +kernel
theorem d_O_makers_15 : decode m_O_makers.2.1 15 = .ok (.iload_n 2, 1) := by decide +kernel
theorem d_O_makers_16 : decode m_O_makers.2.1 16 = .ok (.iconst 1, 1) := by decide +kernel
theorem d_O_makers_17 : decode m_O_makers.2.1 17 = .ok (.if_icmp .le 6, 3) := by decide +kernel
theorem d_O_makers_20 : decode m_O_makers.2.1 20 = .ok (.bipush (-2), 2) := by decide +kernel
theorem d_O_makers_22 : decode m_O_makers.2.1 22 = .ok (.ireturn, 1) := by decide +kernel
theorem d_O_makers_23 : decode m_O_makers.2.1 23 = .ok (.aload_n 0, 1) := by decide +kernel
theorem d_O_makers_24 : decode m_O_makers.2.1 24 = .ok (.getfield 26, 3) := by decide +kernel
theorem d_O_makers_27 : decode m_O_makers.2.1 27 = .ok (.iload_n 1, 1) := by decide +kernel
theorem d_O_makers_28 : decode m_O_makers.2.1 28 = .ok (.invokestatic 198, 3) := by decide +kernel
theorem d_O_makers_31 : decode m_O_makers.2.1 31 = .ok (.istore_n 3, 1) := by decide +kernel
theorem d_O_makers_32 : decode m_O_makers.2.1 32 = .ok (.iload_n 2, 1) := by decide +kernel
theorem d_O_makers_33 : decode m_O_makers.2.1 33 = .ok (.iconst 1, 1) := by decide +kernel
theorem d_O_makers_34 : decode m_O_makers.2.1 34 = .ok (.if_icmp .eq 9, 3) := by decide +kernel
theorem d_O_makers_37 : decode m_O_makers.2.1 37 = .ok (.iload_n 3, 1) := by decide +kernel
theorem d_O_makers_38 : decode m_O_makers.2.1 38 = .ok (.bipush (-6), 2) := by decide +kernel
theorem d_O_makers_40 : decode m_O_makers.2.1 40 = .ok (.if_icmp .ne 7, 3) := by decide +kernel
theorem d_O_makers_43 : decode m_O_makers.2.1 43 = .ok (.iload_n 3, 1) := by decide +kernel
theorem d_O_makers_44 : decode m_O_makers.2.1 44 = .ok (.goto 7, 3) := by decide +kernel
theorem d_O_makers_47 : decode m_O_makers.2.1 47 = .ok (.iload_n 3, 1) := by decide +kernel
theorem d_O_makers_48 : decode m_O_makers.2.1 48 = .ok (.invokestatic 203, 3) := by decide +kernel
theorem d_O_makers_51 : decode m_O_makers.2.1 51 = .ok (.ireturn, 1) := by decide +kernel
theorem d_O_married_0 : decode m_O_married.2.1 0 = .ok (.aload_n 0, 1) := by decide +kernel
theorem d_O_married_1 : decode m_O_married.2.1 1 = .ok (.getfield 58, 3) := by decide +kernel
theorem d_O_married_4 : decode m_O_married.2.1 4 = .ok (.aload_n 0, 1) := by decide +kernel
theorem d_O_married_5 : decode m_O_married.2.1 5 = .ok (.getfield 26, 3) := by decide +kernel
theorem d_O_married_8 : decode m_O_married.2.1 8 = .ok (.invokevirtual 219, 3) := by decide +kernel
theorem d_O_married_11 : decode m_O_married.2.1 11 = .ok (.istore_n 2, 1) := by decide +kernel
theorem d_O_married_12 : decode m_O_married.2.1 12 = .ok (.iload_n 1, 1) := by decide +kernel
theorem d_O_married_13 : decode m_O_married.2.1 13 = .ok (.iconst (-1), 1) := by decide +kernel
theorem d_O_married_14 : decode m_O_married.2.1 14 = .ok (.if_icmp .ne 5, 3) := by decide +kernel
theorem d_O_married_17 : decode m_O_married.2.1 17 = .ok (.iload_n 2, 1) := by decide +kernel
theorem d_O_married_18 : decode m_O_married.2.1 18 = .ok (.ireturn, 1) := by decide +kernel
theorem d_O_married_19 : decode m_O_married.2.1 19 = .ok (.iload_n 1, 1) := by decide +kernel
theorem d_O_married_20 : decode m_O_married.2.1 20 = .ok (.invokestatic 111, 3) := by decide +kernel
theorem d_O_married_23 : decode m_O_married.2.1 23 = .ok (.ifCond .eq 15, 3) := by decide +kernel
theorem d_O_married_26 : decode m_O_married.2.1 26 = .ok (.aload_n 0, 1) := by decide +kernel
theorem d_O_married_27 : decode m_O_married.2.1 27 = .ok (.getfield 58, 3) := by decide +kernel
theorem d_O_married_30 : decode m_O_married.2.1 30 = .ok (.getfield 223, 3) := by decide +kernel
theorem d_O_married_33 : decode m_O_married.2.1 33 = .ok (.iload_n 1, 1) := by decide +kernel
theorem d_O_married_34 : decode m_O_married.2.1 34 = .ok (.iaload, 1) := by decide +kernel
theorem d_O_married_35 : decode m_O_married.2.1 35 = .ok (.goto 5, 3) := by decide +kernel
theorem d_O_married_38 : decode m_O_married.2.1 38 = .ok (.bipush (-6), 2) := by decide +kernel
theorem d_O_married_40 : decode m_O_married.2.1 40 = .ok (.ireturn, 1) := by decide +kernel
theorem d_O_may_0 : decode m_O_may.2.1 0 = .ok (.iload_n 1, 1) := by decide +kernel
theorem d_O_may_1 : decode m_O_may.2.1 1 = .ok (.invokestatic 111, 3) := by decide +kernel
theorem d_O_may_4 : decode m_O_may.2.1 4 = .ok (.ifCond .ne 5, 3) := by decide +kernel
theorem d_O_may_7 : decode m_O_may.2.1 7 = .ok (.iconst (-1), 1) := by decide +kernel
theorem d_O_may_8 : decode m_O_may.2.1 8 = .ok (.ireturn, 1) := by decide +kernel
theorem d_O_may_9 : decode m_O_may.2.1 9 = .ok (.iload_n 2, 1) := by decide +kernel
theorem d_O_may_10 : decode m_O_may.2.1 10 = .ok (.lookupswitch 44 #[(0, 26), (1, 35)], 26) := by decide +kernel
theorem d_O_may_36 : decode m_O_may.2.1 36 = .ok (.aload_n 0, 1) := by decide +kernel
theorem d_O_may_37 : decode m_O_may.2.1 37 = .ok (.getfield 26, 3) := by decide +kernel
theorem d_O_may_40 : decode m_O_may.2.1 40 = .ok (.iload_n 1, 1) := by decide +kernel
theorem d_O_may_41 : decode m_O_may.2.1 41 = .ok (.invokevirtual 143, 3) := by decide +kernel
theorem d_O_may_44 : decode m_O_may.2.1 44 = .ok (.ireturn, 1) := by decide +kernel
theorem d_O_may_45 : decode m_O_may.2.1 45 = .ok (.aload_n 0, 1) := by decide +kernel
theorem d_O_may_46 : decode m_O_may.2.1 46 = .ok (.getfield 26, 3) := by decide +kernel
theorem d_O_may_49 : decode m_O_may.2.1 49 = .ok (.iload_n 1, 1) := by decide +kernel
theorem d_O_may_50 : decode m_O_may.2.1 50 = .ok (.invokevirtual 146, 3) := by decide +kernel
theorem d_O_may_53 : decode m_O_may.2.1 53 = .ok (.ireturn, 1) := by decide +kernel
theorem d_O_may_54 : decode m_O_may.2.1 54 = .ok (.bipush (-2), 2) := by decide +kernel
theorem d_O_may_56 : decode m_O_may.2.1 56 = .ok (.ireturn, 1) := by decide +kernel
theorem d_O_near_0 : decode m_O_near.2.1 0 = .ok (.aload_n 0, 1) := by decide +kernel
theorem d_O_near_1 : decode m_O_near.2.1 1 = .ok (.iload_n 1, 1) := by decide +kernel
theorem d_O_near_2 : decode m_O_near.2.1 2 = .ok (.invokevirtual 91, 3) := by decide +kernel
theorem d_O_near_5 : decode m_O_near.2.1 5 = .ok (.ifCond .eq 10, 3) := by decide +kernel
theorem d_O_near_8 : decode m_O_near.2.1 8 = .ok (.iload_n 2, 1) := by decide +kernel
theorem d_O_near_9 : decode m_O_near.2.1 9 = .ok (.invokestatic 111, 3) := by decide +kernel
theorem d_O_near_12 : decode m_O_near.2.1 12 = .ok (.ifCond .ne 5, 3) := by decide +kernel
theorem d_O_near_15 : decode m_O_near.2.1 15 = .ok (.iconst (-1), 1) := by decide +kernel
theorem d_O_near_16 : decode m_O_near.2.1 16 = .ok (.ireturn, 1) := by decide +kernel
theorem d_O_near_17 : decode m_O_near.2.1 17 = .ok (.aload_n 0, 1) := by decide +kernel
theorem d_O_near_18 : decode m_O_near.2.1 18 = .ok (.getfield 26, 3) := by decide +kernel
theorem d_O_near_21 : decode m_O_near.2.1 21 = .ok (.iload_n 1, 1) := by decide +kernel
theorem d_O_near_22 : decode m_O_near.2.1 22 = .ok (.iconst 1, 1) := by decide +kernel
theorem d_O_near_23 : decode m_O_near.2.1 23 = .ok (.iload_n 2, 1) := by decide +kernel
theorem d_O_near_24 : decode m_O_near.2.1 24 = .ok (.ishl, 1) := by decide +kernel
theorem d_O_near_25 : decode m_O_near.2.1 25 = .ok (.invokevirtual 149, 3) := by decide +kernel
theorem d_O_near_28 : decode m_O_near.2.1 28 = .ok (.ireturn, 1) := by decide +kernel
theorem d_O_part_0 : decode m_O_part.2.1 0 = .ok (.iload_n 1, 1) := by decide +kernel
theorem d_O_part_1 : decode m_O_part.2.1 1 = .ok (.invokestatic 111, 3) := by decide +kernel
theorem d_O_part_4 : decode m_O_part.2.1 4 = .ok (.ifCond .ne 5, 3) := by decide +kernel
theorem d_O_part_7 : decode m_O_part.2.1 7 = .ok (.iconst (-1), 1) := by decide +kernel
theorem d_O_part_8 : decode m_O_part.2.1 8 = .ok (.ireturn, 1) := by decide +kernel
theorem d_O_part_9 : decode m_O_part.2.1 9 = .ok (.aload_n 0, 1) := by decide +kernel
theorem d_O_part_10 : decode m_O_part.2.1 10 = .ok (.getfield 26, 3) := by decide +kernel
theorem d_O_part_13 : decode m_O_part.2.1 13 = .ok (.getfield 114, 3) := by decide +kernel
theorem d_O_part_16 : decode m_O_part.2.1 16 = .ok (.iload_n 1, 1) := by decide +kernel
theorem d_O_part_17 : decode m_O_part.2.1 17 = .ok (.iaload, 1) := by decide +kernel
theorem d_O_part_18 : decode m_O_part.2.1 18 = .ok (.istore_n 2, 1) := by decide +kernel
theorem d_O_part_19 : decode m_O_part.2.1 19 = .ok (.aload_n 0, 1) := by decide +kernel
theorem d_O_part_20 : decode m_O_part.2.1 20 = .ok (.getfield 26, 3) := by decide +kernel
theorem d_O_part_23 : decode m_O_part.2.1 23 = .ok (.getfield 114, 3) := by decide +kernel
theorem d_O_part_26 : decode m_O_part.2.1 26 = .ok (.iload_n 1, 1) := by decide +kernel
theorem d_O_part_27 : decode m_O_part.2.1 27 = .ok (.bipush (-6), 2) := by decide +kernel
theorem d_O_part_29 : decode m_O_part.2.1 29 = .ok (.iastore, 1) := by decide +kernel
theorem d_O_part_30 : decode m_O_part.2.1 30 = .ok (.iload_n 2, 1) := by decide +kernel
theorem d_O_part_31 : decode m_O_part.2.1 31 = .ok (.invokestatic 111, 3) := by decide +kernel
theorem d_O_part_34 : decode m_O_part.2.1 34 = .ok (.ifCond .eq 14, 3) := by decide +kernel
theorem d_O_part_37 : decode m_O_part.2.1 37 = .ok (.aload_n 0, 1) := by decide +kernel
theorem d_O_part_38 : decode m_O_part.2.1 38 = .ok (.getfield 26, 3) := by decide +kernel
theorem d_O_part_41 : decode m_O_part.2.1 41 = .ok (.getfield 114, 3) := by decide +kernel
theorem d_O_part_44 : decode m_O_part.2.1 44 = .ok (.iload_n 2, 1) := by decide +kernel
theorem d_O_part_45 : decode m_O_part.2.1 45 = .ok (.bipush (-6), 2) := by decide +kernel
theorem d_O_part_47 : decode m_O_part.2.1 47 = .ok (.iastore, 1) := by decide +kernel
theorem d_O_part_48 : decode m_O_part.2.1 48 = .ok (.iload_n 2, 1) := by decide +kernel
theorem d_O_part_49 : decode m_O_part.2.1 49 = .ok (.ireturn, 1) := by decide +kernel
theorem d_O_restore_0 : decode m_O_restore.2.1 0 = .ok (.iload_n 1, 1) := by decide +kernel
theorem d_O_restore_1 : decode m_O_restore.2.1 1 = .ok (.ifCond .lt 8, 3) := by decide +kernel
theorem d_O_restore_4 : decode m_O_restore.2.1 4 = .ok (.iload_n 1, 1) := by decide +kernel
theorem d_O_restore_5 : decode m_O_restore.2.1 5 = .ok (.iconst 2, 1) := by decide +kernel
theorem d_O_restore_6 : decode m_O_restore.2.1 6 = .ok (.if_icmp .lt 6, 3) := by decide +kernel
theorem d_O_restore_9 : decode m_O_restore.2.1 9 = .ok (.bipush (-2), 2) := by decide +kernel
theorem d_O_restore_11 : decode m_O_restore.2.1 11 = .ok (.ireturn, 1) := by decide +kernel
theorem d_O_restore_12 : decode m_O_restore.2.1 12 = .ok (.aload_n 0, 1) := by decide +kernel
theorem d_O_restore_13 : decode m_O_restore.2.1 13 = .ok (.getfield 30, 3) := by decide +kernel
theorem d_O_restore_16 : decode m_O_restore.2.1 16 = .ok (.iload_n 1, 1) := by decide +kernel
theorem d_O_restore_17 : decode m_O_restore.2.1 17 = .ok (.aaload, 1) := by decide +kernel
theorem d_O_restore_18 : decode m_O_restore.2.1 18 = .ok (.astore_n 2, 1) := by decide +kernel
theorem d_O_restore_19 : decode m_O_restore.2.1 19 = .ok (.aload_n 2, 1) := by decide +kernel
theorem d_O_restore_20 : decode m_O_restore.2.1 20 = .ok (.ifnonnull 6, 3) := by decide +kernel
theorem d_O_restore_23 : decode m_O_restore.2.1 23 = .ok (.bipush (-3), 2) := by decide +kernel
theorem d_O_restore_25 : decode m_O_restore.2.1 25 = .ok (.ireturn, 1) := by decide +kernel
theorem d_O_restore_26 : decode m_O_restore.2.1 26 = .ok (.aload_n 0, 1) := by decide +kernel
theorem d_O_restore_27 : decode m_O_restore.2.1 27 = .ok (.getfield 26, 3) := by decide +kernel
theorem d_O_restore_30 : decode m_O_restore.2.1 30 = .ok (.aload_n 2, 1) := by decide +kernel
theorem d_O_restore_31 : decode m_O_restore.2.1 31 = .ok (.invokevirtual 232, 3) := by decide +kernel
theorem d_O_restore_34 : decode m_O_restore.2.1 34 = .ok (.iconst 1, 1) := by decide +kernel
theorem d_O_restore_35 : decode m_O_restore.2.1 35 = .ok (.ireturn, 1) := by decide +kernel
theorem d_O_say_0 : decode m_O_say.2.1 0 = .ok (.iload_n 1, 1) := by decide +kernel
theorem d_O_say_1 : decode m_O_say.2.1 1 = .ok (.bipush 33, 2) := by decide +kernel
theorem d_O_say_3 : decode m_O_say.2.1 3 = .ok (.if_icmp .lt 9, 3) := by decide +kernel
theorem d_O_say_6 : decode m_O_say.2.1 6 = .ok (.iload_n 1, 1) := by decide +kernel
theorem d_O_say_7 : decode m_O_say.2.1 7 = .ok (.bipush 126, 2) := by decide +kernel
theorem d_O_say_9 : decode m_O_say.2.1 9 = .ok (.if_icmp .le 6, 3) := by decide +kernel
theorem d_O_say_12 : decode m_O_say.2.1 12 = .ok (.bipush (-2), 2) := by decide +kernel
theorem d_O_say_14 : decode m_O_say.2.1 14 = .ok (.ireturn, 1) := by decide +kernel
theorem d_O_say_15 : decode m_O_say.2.1 15 = .ok (.aload_n 0, 1) := by decide +kernel
theorem d_O_say_16 : decode m_O_say.2.1 16 = .ok (.getfield 12, 3) := by decide +kernel
theorem d_O_say_19 : decode m_O_say.2.1 19 = .ok (.iload_n 1, 1) := by decide +kernel
theorem d_O_say_20 : decode m_O_say.2.1 20 = .ok (.invokevirtual 62, 3) := by decide +kernel
theorem d_O_say_23 : decode m_O_say.2.1 23 = .ok (.ireturn, 1) := by decide +kernel
theorem d_O_seen_0 : decode m_O_seen.2.1 0 = .ok (.iload_n 1, 1) := by decide +kernel
theorem d_O_seen_1 : decode m_O_seen.2.1 1 = .ok (.invokestatic 111, 3) := by decide +kernel
theorem d_O_seen_4 : decode m_O_seen.2.1 4 = .ok (.ifCond .eq 11, 3) := by decide +kernel
theorem d_O_seen_7 : decode m_O_seen.2.1 7 = .ok (.aload_n 0, 1) := by decide +kernel
theorem d_O_seen_8 : decode m_O_seen.2.1 8 = .ok (.iload_n 2, 1) := by decide +kernel
theorem d_O_seen_9 : decode m_O_seen.2.1 9 = .ok (.invokevirtual 91, 3) := by decide +kernel
theorem d_O_seen_12 : decode m_O_seen.2.1 12 = .ok (.ifCond .ne 5, 3) := by decide +kernel
theorem d_O_seen_15 : decode m_O_seen.2.1 15 = .ok (.iconst (-1), 1) := by decide +kernel
theorem d_O_seen_16 : decode m_O_seen.2.1 16 = .ok (.ireturn, 1) := by decide +kernel
theorem d_O_seen_17 : decode m_O_seen.2.1 17 = .ok (.aload_n 0, 1) := by decide +kernel
theorem d_O_seen_18 : decode m_O_seen.2.1 18 = .ok (.getfield 26, 3) := by decide +kernel
theorem d_O_seen_21 : decode m_O_seen.2.1 21 = .ok (.iload_n 1, 1) := by decide +kernel
theorem d_O_seen_22 : decode m_O_seen.2.1 22 = .ok (.iload_n 2, 1) := by decide +kernel
theorem d_O_seen_23 : decode m_O_seen.2.1 23 = .ok (.invokevirtual 163, 3) := by decide +kernel
theorem d_O_seen_26 : decode m_O_seen.2.1 26 = .ok (.ireturn, 1) := by decide +kernel
theorem d_O_set_0 : decode m_O_set.2.1 0 = .ok (.iload_n 1, 1) := by decide +kernel
theorem d_O_set_1 : decode m_O_set.2.1 1 = .ok (.ifCond .lt 20, 3) := by decide +kernel
theorem d_O_set_4 : decode m_O_set.2.1 4 = .ok (.iload_n 1, 1) := by decide +kernel
theorem d_O_set_5 : decode m_O_set.2.1 5 = .ok (.iconst 2, 1) := by decide +kernel
theorem d_O_set_6 : decode m_O_set.2.1 6 = .ok (.if_icmp .gt 15, 3) := by decide +kernel
theorem d_O_set_9 : decode m_O_set.2.1 9 = .ok (.iload_n 2, 1) := by decide +kernel
theorem d_O_set_10 : decode m_O_set.2.1 10 = .ok (.ifCond .lt 11, 3) := by decide +kernel
theorem d_O_set_13 : decode m_O_set.2.1 13 = .ok (.iload_n 2, 1) := by decide +kernel
theorem d_O_set_14 : decode m_O_set.2.1 14 = .ok (.iload_n 1, 1) := by decide +kernel
theorem d_O_set_15 : decode m_O_set.2.1 15 = .ok (.invokestatic 117, 3) := by decide +kernel
theorem d_O_set_18 : decode m_O_set.2.1 18 = .ok (.if_icmp .le 6, 3) := by decide +kernel
theorem d_O_set_21 : decode m_O_set.2.1 21 = .ok (.bipush (-2), 2) := by decide +kernel
theorem d_O_set_23 : decode m_O_set.2.1 23 = .ok (.ireturn, 1) := by decide +kernel
theorem d_O_set_24 : decode m_O_set.2.1 24 = .ok (.aload_n 0, 1) := by decide +kernel
theorem d_O_set_25 : decode m_O_set.2.1 25 = .ok (.getfield 26, 3) := by decide +kernel
theorem d_O_set_28 : decode m_O_set.2.1 28 = .ok (.iload_n 1, 1) := by decide +kernel
theorem d_O_set_29 : decode m_O_set.2.1 29 = .ok (.iload_n 2, 1) := by decide +kernel
theorem d_O_set_30 : decode m_O_set.2.1 30 = .ok (.invokevirtual 120, 3) := by decide +kernel
theorem d_O_set_33 : decode m_O_set.2.1 33 = .ok (.ireturn, 1) := by decide +kernel
theorem d_O_share_0 : decode m_O_share.2.1 0 = .ok (.aload_n 0, 1) := by decide +kernel
theorem d_O_share_1 : decode m_O_share.2.1 1 = .ok (.iload_n 1, 1) := by decide +kernel
theorem d_O_share_2 : decode m_O_share.2.1 2 = .ok (.invokevirtual 91, 3) := by decide +kernel
theorem d_O_share_5 : decode m_O_share.2.1 5 = .ok (.ifCond .eq 10, 3) := by decide +kernel
theorem d_O_share_8 : decode m_O_share.2.1 8 = .ok (.iload_n 2, 1) := by decide +kernel
theorem d_O_share_9 : decode m_O_share.2.1 9 = .ok (.invokestatic 111, 3) := by decide +kernel
theorem d_O_share_12 : decode m_O_share.2.1 12 = .ok (.ifCond .ne 7, 3) := by decide +kernel
theorem d_O_share_15 : decode m_O_share.2.1 15 = .ok (.ldc2_w 152, 3) := by decide +kernel
theorem d_O_share_18 : decode m_O_share.2.1 18 = .ok (.lreturn, 1) := by decide +kernel
theorem d_O_share_19 : decode m_O_share.2.1 19 = .ok (.iload_n 3, 1) := by decide +kernel
theorem d_O_share_20 : decode m_O_share.2.1 20 = .ok (.ifCond .lt 8, 3) := by decide +kernel
theorem d_O_share_23 : decode m_O_share.2.1 23 = .ok (.iload_n 3, 1) := by decide +kernel
theorem d_O_share_24 : decode m_O_share.2.1 24 = .ok (.iconst 1, 1) := by decide +kernel
theorem d_O_share_25 : decode m_O_share.2.1 25 = .ok (.if_icmp .le 7, 3) := by decide +kernel
theorem d_O_share_28 : decode m_O_share.2.1 28 = .ok (.ldc2_w 154, 3) := by decide +kernel
theorem d_O_share_31 : decode m_O_share.2.1 31 = .ok (.lreturn, 1) := by decide +kernel
theorem d_O_share_32 : decode m_O_share.2.1 32 = .ok (.aload_n 0, 1) := by decide +kernel
theorem d_O_share_33 : decode m_O_share.2.1 33 = .ok (.getfield 37, 3) := by decide +kernel
theorem d_O_share_36 : decode m_O_share.2.1 36 = .ok (.aload_n 0, 1) := by decide +kernel
theorem d_O_share_37 : decode m_O_share.2.1 37 = .ok (.getfield 26, 3) := by decide +kernel
theorem d_O_share_40 : decode m_O_share.2.1 40 = .ok (.getfield 82, 3) := by decide +kernel
theorem d_O_share_43 : decode m_O_share.2.1 43 = .ok (.iload_n 1, 1) := by decide +kernel
theorem d_O_share_44 : decode m_O_share.2.1 44 = .ok (.iload_n 2, 1) := by decide +kernel
theorem d_O_share_45 : decode m_O_share.2.1 45 = .ok (.invokevirtual 156, 3) := by decide +kernel
theorem d_O_share_48 : decode m_O_share.2.1 48 = .ok (.istore 4, 2) := by decide +kernel
theorem d_O_share_50 : decode m_O_share.2.1 50 = .ok (.iload 4, 2) := by decide +kernel
theorem d_O_share_52 : decode m_O_share.2.1 52 = .ok (.sipush 6144, 3) := by decide +kernel
theorem d_O_share_55 : decode m_O_share.2.1 55 = .ok (.iload_n 3, 1) := by decide +kernel
theorem d_O_share_56 : decode m_O_share.2.1 56 = .ok (.invokestatic 159, 3) := by decide +kernel
theorem d_O_share_59 : decode m_O_share.2.1 59 = .ok (.i2l, 1) := by decide +kernel
theorem d_O_share_60 : decode m_O_share.2.1 60 = .ok (.lreturn, 1) := by decide +kernel
theorem d_O_sure_0 : decode m_O_sure.2.1 0 = .ok (.aload_n 0, 1) := by decide +kernel
theorem d_O_sure_1 : decode m_O_sure.2.1 1 = .ok (.iload_n 1, 1) := by decide +kernel
theorem d_O_sure_2 : decode m_O_sure.2.1 2 = .ok (.invokevirtual 91, 3) := by decide +kernel
theorem d_O_sure_5 : decode m_O_sure.2.1 5 = .ok (.ifCond .ne 5, 3) := by decide +kernel
theorem d_O_sure_8 : decode m_O_sure.2.1 8 = .ok (.iconst (-1), 1) := by decide +kernel
theorem d_O_sure_9 : decode m_O_sure.2.1 9 = .ok (.ireturn, 1) := by decide +kernel
theorem d_O_sure_10 : decode m_O_sure.2.1 10 = .ok (.iload_n 2, 1) := by decide +kernel
theorem d_O_sure_11 : decode m_O_sure.2.1 11 = .ok (.ifCond .lt 8, 3) := by decide +kernel
theorem d_O_sure_14 : decode m_O_sure.2.1 14 = .ok (.iload_n 2, 1) := by decide +kernel
theorem d_O_sure_15 : decode m_O_sure.2.1 15 = .ok (.iconst 1, 1) := by decide +kernel
theorem d_O_sure_16 : decode m_O_sure.2.1 16 = .ok (.if_icmp .le 6, 3) := by decide +kernel
theorem d_O_sure_19 : decode m_O_sure.2.1 19 = .ok (.bipush (-2), 2) := by decide +kernel
theorem d_O_sure_21 : decode m_O_sure.2.1 21 = .ok (.ireturn, 1) := by decide +kernel
theorem d_O_sure_22 : decode m_O_sure.2.1 22 = .ok (.aload_n 0, 1) := by decide +kernel
theorem d_O_sure_23 : decode m_O_sure.2.1 23 = .ok (.getfield 44, 3) := by decide +kernel
theorem d_O_sure_26 : decode m_O_sure.2.1 26 = .ok (.aload_n 0, 1) := by decide +kernel
theorem d_O_sure_27 : decode m_O_sure.2.1 27 = .ok (.getfield 26, 3) := by decide +kernel
theorem d_O_sure_30 : decode m_O_sure.2.1 30 = .ok (.invokevirtual 169, 3) := by decide +kernel
theorem d_O_sure_33 : decode m_O_sure.2.1 33 = .ok (.aload_n 0, 1) := by decide +kernel
theorem d_O_sure_34 : decode m_O_sure.2.1 34 = .ok (.getfield 44, 3) := by decide +kernel
theorem d_O_sure_37 : decode m_O_sure.2.1 37 = .ok (.invokevirtual 173, 3) := by decide +kernel
theorem d_O_sure_40 : decode m_O_sure.2.1 40 = .ok (.ifCond .ne 6, 3) := by decide +kernel
theorem d_O_sure_43 : decode m_O_sure.2.1 43 = .ok (.bipush (-3), 2) := by decide +kernel
theorem d_O_sure_45 : decode m_O_sure.2.1 45 = .ok (.ireturn, 1) := by decide +kernel
theorem d_O_sure_46 : decode m_O_sure.2.1 46 = .ok (.iload_n 2, 1) := by decide +kernel
theorem d_O_sure_47 : decode m_O_sure.2.1 47 = .ok (.ifCond .ne 18, 3) := by decide +kernel
theorem d_O_sure_50 : decode m_O_sure.2.1 50 = .ok (.aload_n 0, 1) := by decide +kernel
theorem d_O_sure_51 : decode m_O_sure.2.1 51 = .ok (.getfield 44, 3) := by decide +kernel
theorem d_O_sure_54 : decode m_O_sure.2.1 54 = .ok (.aload_n 0, 1) := by decide +kernel
theorem d_O_sure_55 : decode m_O_sure.2.1 55 = .ok (.getfield 26, 3) := by decide +kernel
theorem d_O_sure_58 : decode m_O_sure.2.1 58 = .ok (.iload_n 1, 1) := by decide +kernel
theorem d_O_sure_59 : decode m_O_sure.2.1 59 = .ok (.invokevirtual 179, 3) := by decide +kernel
theorem d_O_sure_62 : decode m_O_sure.2.1 62 = .ok (.goto 15, 3) := by decide +kernel
theorem d_O_sure_65 : decode m_O_sure.2.1 65 = .ok (.aload_n 0, 1) := by decide +kernel
theorem d_O_sure_66 : decode m_O_sure.2.1 66 = .ok (.getfield 44, 3) := by decide +kernel
theorem d_O_sure_69 : decode m_O_sure.2.1 69 = .ok (.aload_n 0, 1) := by decide +kernel
theorem d_O_sure_70 : decode m_O_sure.2.1 70 = .ok (.getfield 26, 3) := by decide +kernel
theorem d_O_sure_73 : decode m_O_sure.2.1 73 = .ok (.iload_n 1, 1) := by decide +kernel
theorem d_O_sure_74 : decode m_O_sure.2.1 74 = .ok (.invokevirtual 183, 3) := by decide +kernel
theorem d_O_sure_77 : decode m_O_sure.2.1 77 = .ok (.ireturn, 1) := by decide +kernel
theorem d_O_thing_0 : decode m_O_thing.2.1 0 = .ok (.aload_n 0, 1) := by decide +kernel
theorem d_O_thing_1 : decode m_O_thing.2.1 1 = .ok (.iload_n 1, 1) := by decide +kernel
theorem d_O_thing_2 : decode m_O_thing.2.1 2 = .ok (.invokevirtual 91, 3) := by decide +kernel
theorem d_O_thing_5 : decode m_O_thing.2.1 5 = .ok (.ifCond .ne 5, 3) := by decide +kernel
theorem d_O_thing_8 : decode m_O_thing.2.1 8 = .ok (.iconst (-1), 1) := by decide +kernel
theorem d_O_thing_9 : decode m_O_thing.2.1 9 = .ok (.ireturn, 1) := by decide +kernel
theorem d_O_thing_10 : decode m_O_thing.2.1 10 = .ok (.iload_n 2, 1) := by decide +kernel
theorem d_O_thing_11 : decode m_O_thing.2.1 11 = .ok (.tableswitch 98 0 4 #[33, 46, 59, 72, 85], 33) := by decide +kernel
theorem d_O_thing_44 : decode m_O_thing.2.1 44 = .ok (.aload_n 0, 1) := by decide +kernel
theorem d_O_thing_45 : decode m_O_thing.2.1 45 = .ok (.getfield 26, 3) := by decide +kernel
theorem d_O_thing_48 : decode m_O_thing.2.1 48 = .ok (.getfield 82, 3) := by decide +kernel
theorem d_O_thing_51 : decode m_O_thing.2.1 51 = .ok (.getfield 95, 3) := by decide +kernel
theorem d_O_thing_54 : decode m_O_thing.2.1 54 = .ok (.iload_n 1, 1) := by decide +kernel
theorem d_O_thing_55 : decode m_O_thing.2.1 55 = .ok (.iaload, 1) := by decide +kernel
theorem d_O_thing_56 : decode m_O_thing.2.1 56 = .ok (.ireturn, 1) := by decide +kernel
theorem d_O_thing_57 : decode m_O_thing.2.1 57 = .ok (.aload_n 0, 1) := by decide +kernel
theorem d_O_thing_58 : decode m_O_thing.2.1 58 = .ok (.getfield 26, 3) := by decide +kernel
theorem d_O_thing_61 : decode m_O_thing.2.1 61 = .ok (.getfield 82, 3) := by decide +kernel
theorem d_O_thing_64 : decode m_O_thing.2.1 64 = .ok (.getfield 99, 3) := by decide +kernel
theorem d_O_thing_67 : decode m_O_thing.2.1 67 = .ok (.iload_n 1, 1) := by decide +kernel
theorem d_O_thing_68 : decode m_O_thing.2.1 68 = .ok (.iaload, 1) := by decide +kernel
theorem d_O_thing_69 : decode m_O_thing.2.1 69 = .ok (.ireturn, 1) := by decide +kernel
theorem d_O_thing_70 : decode m_O_thing.2.1 70 = .ok (.aload_n 0, 1) := by decide +kernel
theorem d_O_thing_71 : decode m_O_thing.2.1 71 = .ok (.getfield 26, 3) := by decide +kernel
theorem d_O_thing_74 : decode m_O_thing.2.1 74 = .ok (.getfield 82, 3) := by decide +kernel
theorem d_O_thing_77 : decode m_O_thing.2.1 77 = .ok (.getfield 102, 3) := by decide +kernel
theorem d_O_thing_80 : decode m_O_thing.2.1 80 = .ok (.iload_n 1, 1) := by decide +kernel
theorem d_O_thing_81 : decode m_O_thing.2.1 81 = .ok (.iaload, 1) := by decide +kernel
theorem d_O_thing_82 : decode m_O_thing.2.1 82 = .ok (.ireturn, 1) := by decide +kernel
theorem d_O_thing_83 : decode m_O_thing.2.1 83 = .ok (.aload_n 0, 1) := by decide +kernel
theorem d_O_thing_84 : decode m_O_thing.2.1 84 = .ok (.getfield 26, 3) := by decide +kernel
theorem d_O_thing_87 : decode m_O_thing.2.1 87 = .ok (.getfield 82, 3) := by decide +kernel
theorem d_O_thing_90 : decode m_O_thing.2.1 90 = .ok (.getfield 105, 3) := by decide +kernel
theorem d_O_thing_93 : decode m_O_thing.2.1 93 = .ok (.iload_n 1, 1) := by decide +kernel
theorem d_O_thing_94 : decode m_O_thing.2.1 94 = .ok (.iaload, 1) := by decide +kernel
theorem d_O_thing_95 : decode m_O_thing.2.1 95 = .ok (.ireturn, 1) := by decide +kernel
theorem d_O_thing_96 : decode m_O_thing.2.1 96 = .ok (.aload_n 0, 1) := by decide +kernel
theorem d_O_thing_97 : decode m_O_thing.2.1 97 = .ok (.getfield 26, 3) := by decide +kernel
theorem d_O_thing_100 : decode m_O_thing.2.1 100 = .ok (.getfield 82, 3) := by decide +kernel
theorem d_O_thing_103 : decode m_O_thing.2.1 103 = .ok (.getfield 108, 3) := by decide +kernel
theorem d_O_thing_106 : decode m_O_thing.2.1 106 = .ok (.iload_n 1, 1) := by decide +kernel
theorem d_O_thing_107 : decode m_O_thing.2.1 107 = .ok (.iaload, 1) := by decide +kernel
theorem d_O_thing_108 : decode m_O_thing.2.1 108 = .ok (.ireturn, 1) := by decide +kernel
theorem d_O_thing_109 : decode m_O_thing.2.1 109 = .ok (.bipush (-2), 2) := by decide +kernel
theorem d_O_thing_111 : decode m_O_thing.2.1 111 = .ok (.ireturn, 1) := by decide +kernel
theorem d_O_told_0 : decode m_O_told.2.1 0 = .ok (.iload_n 1, 1) := by decide +kernel
theorem d_O_told_1 : decode m_O_told.2.1 1 = .ok (.bipush 10, 2) := by decide +kernel
theorem d_O_told_3 : decode m_O_told.2.1 3 = .ok (.if_icmp .lt 22, 3) := by decide +kernel
theorem d_O_told_6 : decode m_O_told.2.1 6 = .ok (.iload_n 1, 1) := by decide +kernel
theorem d_O_told_7 : decode m_O_told.2.1 7 = .ok (.bipush 16, 2) := by decide +kernel
theorem d_O_told_9 : decode m_O_told.2.1 9 = .ok (.if_icmp .ge 16, 3) := by decide +kernel
theorem d_O_told_12 : decode m_O_told.2.1 12 = .ok (.aload_n 0, 1) := by decide +kernel
theorem d_O_told_13 : decode m_O_told.2.1 13 = .ok (.getfield 26, 3) := by decide +kernel
theorem d_O_told_16 : decode m_O_told.2.1 16 = .ok (.getfield 114, 3) := by decide +kernel
theorem d_O_told_19 : decode m_O_told.2.1 19 = .ok (.iload_n 1, 1) := by decide +kernel
theorem d_O_told_20 : decode m_O_told.2.1 20 = .ok (.bipush 10, 2) := by decide +kernel
theorem d_O_told_22 : decode m_O_told.2.1 22 = .ok (.isub, 1) := by decide +kernel
theorem d_O_told_23 : decode m_O_told.2.1 23 = .ok (.iaload, 1) := by decide +kernel
theorem d_O_told_24 : decode m_O_told.2.1 24 = .ok (.ireturn, 1) := by decide +kernel
theorem d_O_told_25 : decode m_O_told.2.1 25 = .ok (.iload_n 1, 1) := by decide +kernel
theorem d_O_told_26 : decode m_O_told.2.1 26 = .ok (.bipush 20, 2) := by decide +kernel
theorem d_O_told_28 : decode m_O_told.2.1 28 = .ok (.if_icmp .lt 27, 3) := by decide +kernel
theorem d_O_told_31 : decode m_O_told.2.1 31 = .ok (.aload_n 0, 1) := by decide +kernel
theorem d_O_told_32 : decode m_O_told.2.1 32 = .ok (.iload_n 1, 1) := by decide +kernel
theorem d_O_told_33 : decode m_O_told.2.1 33 = .ok (.bipush 20, 2) := by decide +kernel
theorem d_O_told_35 : decode m_O_told.2.1 35 = .ok (.isub, 1) := by decide +kernel
theorem d_O_told_36 : decode m_O_told.2.1 36 = .ok (.invokevirtual 91, 3) := by decide +kernel
theorem d_O_told_39 : decode m_O_told.2.1 39 = .ok (.ifCond .eq 16, 3) := by decide +kernel
theorem d_O_told_42 : decode m_O_told.2.1 42 = .ok (.aload_n 0, 1) := by decide +kernel
theorem d_O_told_43 : decode m_O_told.2.1 43 = .ok (.getfield 26, 3) := by decide +kernel
theorem d_O_told_46 : decode m_O_told.2.1 46 = .ok (.getfield 124, 3) := by decide +kernel
theorem d_O_told_49 : decode m_O_told.2.1 49 = .ok (.iload_n 1, 1) := by decide +kernel
theorem d_O_told_50 : decode m_O_told.2.1 50 = .ok (.bipush 20, 2) := by decide +kernel
theorem d_O_told_52 : decode m_O_told.2.1 52 = .ok (.isub, 1) := by decide +kernel
theorem d_O_told_53 : decode m_O_told.2.1 53 = .ok (.iaload, 1) := by decide +kernel
theorem d_O_told_54 : decode m_O_told.2.1 54 = .ok (.ireturn, 1) := by decide +kernel
theorem d_O_told_55 : decode m_O_told.2.1 55 = .ok (.iload_n 1, 1) := by decide +kernel
theorem d_O_told_56 : decode m_O_told.2.1 56 = .ok (.tableswitch 91 0 5 #[40, 48, 59, 67, 75, 83], 40) := by decide +kernel
theorem d_O_told_96 : decode m_O_told.2.1 96 = .ok (.aload_n 0, 1) := by decide +kernel
theorem d_O_told_97 : decode m_O_told.2.1 97 = .ok (.getfield 12, 3) := by decide +kernel
theorem d_O_told_100 : decode m_O_told.2.1 100 = .ok (.getfield 235, 3) := by decide +kernel
theorem d_O_told_103 : decode m_O_told.2.1 103 = .ok (.ireturn, 1) := by decide +kernel
theorem d_O_told_104 : decode m_O_told.2.1 104 = .ok (.aload_n 0, 1) := by decide +kernel
theorem d_O_told_105 : decode m_O_told.2.1 105 = .ok (.getfield 26, 3) := by decide +kernel
theorem d_O_told_108 : decode m_O_told.2.1 108 = .ok (.getfield 82, 3) := by decide +kernel
theorem d_O_told_111 : decode m_O_told.2.1 111 = .ok (.getfield 85, 3) := by decide +kernel
theorem d_O_told_114 : decode m_O_told.2.1 114 = .ok (.ireturn, 1) := by decide +kernel
theorem d_O_told_115 : decode m_O_told.2.1 115 = .ok (.aload_n 0, 1) := by decide +kernel
theorem d_O_told_116 : decode m_O_told.2.1 116 = .ok (.getfield 26, 3) := by decide +kernel
theorem d_O_told_119 : decode m_O_told.2.1 119 = .ok (.getfield 211, 3) := by decide +kernel
theorem d_O_told_122 : decode m_O_told.2.1 122 = .ok (.ireturn, 1) := by decide +kernel
theorem d_O_told_123 : decode m_O_told.2.1 123 = .ok (.aload_n 0, 1) := by decide +kernel
theorem d_O_told_124 : decode m_O_told.2.1 124 = .ok (.getfield 26, 3) := by decide +kernel
theorem d_O_told_127 : decode m_O_told.2.1 127 = .ok (.getfield 236, 3) := by decide +kernel
theorem d_O_told_130 : decode m_O_told.2.1 130 = .ok (.ireturn, 1) := by decide +kernel
theorem d_O_told_131 : decode m_O_told.2.1 131 = .ok (.aload_n 0, 1) := by decide +kernel
theorem d_O_told_132 : decode m_O_told.2.1 132 = .ok (.getfield 26, 3) := by decide +kernel
theorem d_O_told_135 : decode m_O_told.2.1 135 = .ok (.getfield 133, 3) := by decide +kernel
theorem d_O_told_138 : decode m_O_told.2.1 138 = .ok (.ireturn, 1) := by decide +kernel
theorem d_O_told_139 : decode m_O_told.2.1 139 = .ok (.aload_n 0, 1) := by decide +kernel
theorem d_O_told_140 : decode m_O_told.2.1 140 = .ok (.getfield 26, 3) := by decide +kernel
theorem d_O_told_143 : decode m_O_told.2.1 143 = .ok (.getfield 239, 3) := by decide +kernel
theorem d_O_told_146 : decode m_O_told.2.1 146 = .ok (.ireturn, 1) := by decide +kernel
theorem d_O_told_147 : decode m_O_told.2.1 147 = .ok (.bipush (-2), 2) := by decide +kernel
theorem d_O_told_149 : decode m_O_told.2.1 149 = .ok (.ireturn, 1) := by decide +kernel
theorem d_O_touched_0 : decode m_O_touched.2.1 0 = .ok (.aload_n 0, 1) := by decide +kernel
theorem d_O_touched_1 : decode m_O_touched.2.1 1 = .ok (.iload_n 1, 1) := by decide +kernel
theorem d_O_touched_2 : decode m_O_touched.2.1 2 = .ok (.invokevirtual 91, 3) := by decide +kernel
theorem d_O_touched_5 : decode m_O_touched.2.1 5 = .ok (.ifCond .ne 5, 3) := by decide +kernel
theorem d_O_touched_8 : decode m_O_touched.2.1 8 = .ok (.iconst (-1), 1) := by decide +kernel
theorem d_O_touched_9 : decode m_O_touched.2.1 9 = .ok (.ireturn, 1) := by decide +kernel
theorem d_O_touched_10 : decode m_O_touched.2.1 10 = .ok (.iload_n 2, 1) := by decide +kernel
theorem d_O_touched_11 : decode m_O_touched.2.1 11 = .ok (.tableswitch 73 0 2 #[25, 34, 43], 25) := by decide +kernel
theorem d_O_touched_36 : decode m_O_touched.2.1 36 = .ok (.aload_n 0, 1) := by decide +kernel
theorem d_O_touched_37 : decode m_O_touched.2.1 37 = .ok (.getfield 26, 3) := by decide +kernel
theorem d_O_touched_40 : decode m_O_touched.2.1 40 = .ok (.iload_n 1, 1) := by decide +kernel
theorem d_O_touched_41 : decode m_O_touched.2.1 41 = .ok (.invokevirtual 127, 3) := by decide +kernel
theorem d_O_touched_44 : decode m_O_touched.2.1 44 = .ok (.ireturn, 1) := by decide +kernel
theorem d_O_touched_45 : decode m_O_touched.2.1 45 = .ok (.aload_n 0, 1) := by decide +kernel
theorem d_O_touched_46 : decode m_O_touched.2.1 46 = .ok (.getfield 26, 3) := by decide +kernel
theorem d_O_touched_49 : decode m_O_touched.2.1 49 = .ok (.iload_n 1, 1) := by decide +kernel
theorem d_O_touched_50 : decode m_O_touched.2.1 50 = .ok (.invokevirtual 130, 3) := by decide +kernel
theorem d_O_touched_53 : decode m_O_touched.2.1 53 = .ok (.ireturn, 1) := by decide +kernel
theorem d_O_touched_54 : decode m_O_touched.2.1 54 = .ok (.aload_n 0, 1) := by decide +kernel
theorem d_O_touched_55 : decode m_O_touched.2.1 55 = .ok (.getfield 26, 3) := by decide +kernel
theorem d_O_touched_58 : decode m_O_touched.2.1 58 = .ok (.aload_n 0, 1) := by decide +kernel
theorem d_O_touched_59 : decode m_O_touched.2.1 59 = .ok (.getfield 37, 3) := by decide +kernel
theorem d_O_touched_62 : decode m_O_touched.2.1 62 = .ok (.aload_n 0, 1) := by decide +kernel
theorem d_O_touched_63 : decode m_O_touched.2.1 63 = .ok (.getfield 26, 3) := by decide +kernel
theorem d_O_touched_66 : decode m_O_touched.2.1 66 = .ok (.getfield 82, 3) := by decide +kernel
theorem d_O_touched_69 : decode m_O_touched.2.1 69 = .ok (.iload_n 1, 1) := by decide +kernel
theorem d_O_touched_70 : decode m_O_touched.2.1 70 = .ok (.aload_n 0, 1) := by decide +kernel
theorem d_O_touched_71 : decode m_O_touched.2.1 71 = .ok (.getfield 26, 3) := by decide +kernel
theorem d_O_touched_74 : decode m_O_touched.2.1 74 = .ok (.getfield 133, 3) := by decide +kernel
theorem d_O_touched_77 : decode m_O_touched.2.1 77 = .ok (.invokevirtual 136, 3) := by decide +kernel
theorem d_O_touched_80 : decode m_O_touched.2.1 80 = .ok (.invokevirtual 140, 3) := by decide +kernel
theorem d_O_touched_83 : decode m_O_touched.2.1 83 = .ok (.ireturn, 1) := by decide +kernel
theorem d_O_touched_84 : decode m_O_touched.2.1 84 = .ok (.bipush (-2), 2) := by decide +kernel
theorem d_O_touched_86 : decode m_O_touched.2.1 86 = .ok (.ireturn, 1) := by decide +kernel
theorem d_O_washed_0 : decode m_O_washed.2.1 0 = .ok (.aload_n 0, 1) := by decide +kernel
theorem d_O_washed_1 : decode m_O_washed.2.1 1 = .ok (.iload_n 1, 1) := by decide +kernel
theorem d_O_washed_2 : decode m_O_washed.2.1 2 = .ok (.invokevirtual 91, 3) := by decide +kernel
theorem d_O_washed_5 : decode m_O_washed.2.1 5 = .ok (.ifCond .eq 10, 3) := by decide +kernel
theorem d_O_washed_8 : decode m_O_washed.2.1 8 = .ok (.iload_n 2, 1) := by decide +kernel
theorem d_O_washed_9 : decode m_O_washed.2.1 9 = .ok (.invokestatic 111, 3) := by decide +kernel
theorem d_O_washed_12 : decode m_O_washed.2.1 12 = .ok (.ifCond .ne 5, 3) := by decide +kernel
theorem d_O_washed_15 : decode m_O_washed.2.1 15 = .ok (.iconst (-1), 1) := by decide +kernel
theorem d_O_washed_16 : decode m_O_washed.2.1 16 = .ok (.ireturn, 1) := by decide +kernel
theorem d_O_washed_17 : decode m_O_washed.2.1 17 = .ok (.aload_n 0, 1) := by decide +kernel
theorem d_O_washed_18 : decode m_O_washed.2.1 18 = .ok (.getfield 26, 3) := by decide +kernel
theorem d_O_washed_21 : decode m_O_washed.2.1 21 = .ok (.iload_n 1, 1) := by decide +kernel
theorem d_O_washed_22 : decode m_O_washed.2.1 22 = .ok (.aload_n 0, 1) := by decide +kernel
theorem d_O_washed_23 : decode m_O_washed.2.1 23 = .ok (.getfield 26, 3) := by decide +kernel
theorem d_O_washed_26 : decode m_O_washed.2.1 26 = .ok (.iload_n 2, 1) := by decide +kernel
theorem d_O_washed_27 : decode m_O_washed.2.1 27 = .ok (.invokevirtual 208, 3) := by decide +kernel
theorem d_O_washed_30 : decode m_O_washed.2.1 30 = .ok (.invokevirtual 149, 3) := by decide +kernel
theorem d_O_washed_33 : decode m_O_washed.2.1 33 = .ok (.istore_n 3, 1) := by decide +kernel
theorem d_O_washed_34 : decode m_O_washed.2.1 34 = .ok (.iload_n 3, 1) := by decide +kernel
theorem d_O_washed_35 : decode m_O_washed.2.1 35 = .ok (.bipush (-6), 2) := by decide +kernel
theorem d_O_washed_37 : decode m_O_washed.2.1 37 = .ok (.if_icmp .ne 7, 3) := by decide +kernel
theorem d_O_washed_40 : decode m_O_washed.2.1 40 = .ok (.iconst 0, 1) := by decide +kernel
theorem d_O_washed_41 : decode m_O_washed.2.1 41 = .ok (.goto 18, 3) := by decide +kernel
theorem d_O_washed_44 : decode m_O_washed.2.1 44 = .ok (.iconst 0, 1) := by decide +kernel
theorem d_O_washed_45 : decode m_O_washed.2.1 45 = .ok (.aload_n 0, 1) := by decide +kernel
theorem d_O_washed_46 : decode m_O_washed.2.1 46 = .ok (.getfield 26, 3) := by decide +kernel
theorem d_O_washed_49 : decode m_O_washed.2.1 49 = .ok (.getfield 211, 3) := by decide +kernel
theorem d_O_washed_52 : decode m_O_washed.2.1 52 = .ok (.iconst 1, 1) := by decide +kernel
theorem d_O_washed_53 : decode m_O_washed.2.1 53 = .ok (.iadd, 1) := by decide +kernel
theorem d_O_washed_54 : decode m_O_washed.2.1 54 = .ok (.iload_n 3, 1) := by decide +kernel
theorem d_O_washed_55 : decode m_O_washed.2.1 55 = .ok (.isub, 1) := by decide +kernel
theorem d_O_washed_56 : decode m_O_washed.2.1 56 = .ok (.invokestatic 214, 3) := by decide +kernel
theorem d_O_washed_59 : decode m_O_washed.2.1 59 = .ok (.ireturn, 1) := by decide +kernel
theorem d_O_wipe_0 : decode m_O_wipe.2.1 0 = .ok (.aload_n 0, 1) := by decide +kernel
theorem d_O_wipe_1 : decode m_O_wipe.2.1 1 = .ok (.getfield 12, 3) := by decide +kernel
theorem d_O_wipe_4 : decode m_O_wipe.2.1 4 = .ok (.invokevirtual 66, 3) := by decide +kernel
theorem d_O_wipe_7 : decode m_O_wipe.2.1 7 = .ok (.ireturn, 1) := by decide +kernel
theorem d_Pad_clear_0 : decode m_Pad_clear.2.1 0 = .ok (.aload_n 0, 1) := by decide +kernel
theorem d_Pad_clear_1 : decode m_Pad_clear.2.1 1 = .ok (.getfield 15, 3) := by decide +kernel
theorem d_Pad_clear_4 : decode m_Pad_clear.2.1 4 = .ok (.istore_n 1, 1) := by decide +kernel
theorem d_Pad_clear_5 : decode m_Pad_clear.2.1 5 = .ok (.aload_n 0, 1) := by decide +kernel
theorem d_Pad_clear_6 : decode m_Pad_clear.2.1 6 = .ok (.iconst 0, 1) := by decide +kernel
theorem d_Pad_clear_7 : decode m_Pad_clear.2.1 7 = .ok (.putfield 15, 3) := by decide +kernel
theorem d_Pad_clear_10 : decode m_Pad_clear.2.1 10 = .ok (.iload_n 1, 1) := by decide +kernel
theorem d_Pad_clear_11 : decode m_Pad_clear.2.1 11 = .ok (.ireturn, 1) := by decide +kernel
theorem d_Pad_init_0 : decode m_Pad_init.2.1 0 = .ok (.aload_n 0, 1) := by decide +kernel
theorem d_Pad_init_1 : decode m_Pad_init.2.1 1 = .ok (.invokespecial 3, 3) := by decide +kernel
theorem d_Pad_init_4 : decode m_Pad_init.2.1 4 = .ok (.aload_n 0, 1) := by decide +kernel
theorem d_Pad_init_5 : decode m_Pad_init.2.1 5 = .ok (.bipush 60, 2) := by decide +kernel
theorem d_Pad_init_7 : decode m_Pad_init.2.1 7 = .ok (.newarray .int, 2) := by decide +kernel
theorem d_Pad_init_9 : decode m_Pad_init.2.1 9 = .ok (.putfield 9, 3) := by decide +kernel
theorem d_Pad_init_12 : decode m_Pad_init.2.1 12 = .ok (.return_, 1) := by decide +kernel
theorem d_Pad_put_0 : decode m_Pad_put.2.1 0 = .ok (.aload_n 0, 1) := by decide +kernel
theorem d_Pad_put_1 : decode m_Pad_put.2.1 1 = .ok (.getfield 15, 3) := by decide +kernel
theorem d_Pad_put_4 : decode m_Pad_put.2.1 4 = .ok (.bipush 60, 2) := by decide +kernel
theorem d_Pad_put_6 : decode m_Pad_put.2.1 6 = .ok (.if_icmp .lt 6, 3) := by decide +kernel
theorem d_Pad_put_9 : decode m_Pad_put.2.1 9 = .ok (.bipush (-4), 2) := by decide +kernel
theorem d_Pad_put_11 : decode m_Pad_put.2.1 11 = .ok (.ireturn, 1) := by decide +kernel
theorem d_Pad_put_12 : decode m_Pad_put.2.1 12 = .ok (.aload_n 0, 1) := by decide +kernel
theorem d_Pad_put_13 : decode m_Pad_put.2.1 13 = .ok (.getfield 9, 3) := by decide +kernel
theorem d_Pad_put_16 : decode m_Pad_put.2.1 16 = .ok (.aload_n 0, 1) := by decide +kernel
theorem d_Pad_put_17 : decode m_Pad_put.2.1 17 = .ok (.getfield 15, 3) := by decide +kernel
theorem d_Pad_put_20 : decode m_Pad_put.2.1 20 = .ok (.iload_n 1, 1) := by decide +kernel
theorem d_Pad_put_21 : decode m_Pad_put.2.1 21 = .ok (.iastore, 1) := by decide +kernel
theorem d_Pad_put_22 : decode m_Pad_put.2.1 22 = .ok (.aload_n 0, 1) := by decide +kernel
theorem d_Pad_put_23 : decode m_Pad_put.2.1 23 = .ok (.dup, 1) := by decide +kernel
theorem d_Pad_put_24 : decode m_Pad_put.2.1 24 = .ok (.getfield 15, 3) := by decide +kernel
theorem d_Pad_put_27 : decode m_Pad_put.2.1 27 = .ok (.iconst 1, 1) := by decide +kernel
theorem d_Pad_put_28 : decode m_Pad_put.2.1 28 = .ok (.iadd, 1) := by decide +kernel
theorem d_Pad_put_29 : decode m_Pad_put.2.1 29 = .ok (.putfield 15, 3) := by decide +kernel
theorem d_Pad_put_32 : decode m_Pad_put.2.1 32 = .ok (.aload_n 0, 1) := by decide +kernel
theorem d_Pad_put_33 : decode m_Pad_put.2.1 33 = .ok (.getfield 15, 3) := by decide +kernel
theorem d_Pad_put_36 : decode m_Pad_put.2.1 36 = .ok (.ireturn, 1) := by decide +kernel
theorem d_Pages_become_0 : decode m_Pages_become.2.1 0 = .ok (.aload_n 1, 1) := by decide +kernel
theorem d_Pages_become_1 : decode m_Pages_become.2.1 1 = .ok (.getfield 9, 3) := by decide +kernel
theorem d_Pages_become_4 : decode m_Pages_become.2.1 4 = .ok (.iconst 0, 1) := by decide +kernel
theorem d_Pages_become_5 : decode m_Pages_become.2.1 5 = .ok (.aload_n 0, 1) := by decide +kernel
theorem d_Pages_become_6 : decode m_Pages_become.2.1 6 = .ok (.getfield 9, 3) := by decide +kernel
theorem d_Pages_become_9 : decode m_Pages_become.2.1 9 = .ok (.iconst 0, 1) := by decide +kernel
theorem d_Pages_become_10 : decode m_Pages_become.2.1 10 = .ok (.bipush 10, 2) := by decide +kernel
theorem d_Pages_become_12 : decode m_Pages_become.2.1 12 = .ok (.invokestatic 27, 3) := by decide +kernel
theorem d_Pages_become_15 : decode m_Pages_become.2.1 15 = .ok (.aload_n 1, 1) := by decide +kernel
theorem d_Pages_become_16 : decode m_Pages_become.2.1 16 = .ok (.getfield 15, 3) := by decide +kernel
theorem d_Pages_become_19 : decode m_Pages_become.2.1 19 = .ok (.iconst 0, 1) := by decide +kernel
theorem d_Pages_become_20 : decode m_Pages_become.2.1 20 = .ok (.aload_n 0, 1) := by decide +kernel
theorem d_Pages_become_21 : decode m_Pages_become.2.1 21 = .ok (.getfield 15, 3) := by decide +kernel
theorem d_Pages_become_24 : decode m_Pages_become.2.1 24 = .ok (.iconst 0, 1) := by decide +kernel
theorem d_Pages_become_25 : decode m_Pages_become.2.1 25 = .ok (.bipush 10, 2) := by decide +kernel
theorem d_Pages_become_27 : decode m_Pages_become.2.1 27 = .ok (.invokestatic 27, 3) := by decide +kernel
theorem d_Pages_become_30 : decode m_Pages_become.2.1 30 = .ok (.aload_n 1, 1) := by decide +kernel
theorem d_Pages_become_31 : decode m_Pages_become.2.1 31 = .ok (.getfield 18, 3) := by decide +kernel
theorem d_Pages_become_34 : decode m_Pages_become.2.1 34 = .ok (.iconst 0, 1) := by decide +kernel
theorem d_Pages_become_35 : decode m_Pages_become.2.1 35 = .ok (.aload_n 0, 1) := by decide +kernel
theorem d_Pages_become_36 : decode m_Pages_become.2.1 36 = .ok (.getfield 18, 3) := by decide +kernel
theorem d_Pages_become_39 : decode m_Pages_become.2.1 39 = .ok (.iconst 0, 1) := by decide +kernel
theorem d_Pages_become_40 : decode m_Pages_become.2.1 40 = .ok (.bipush 10, 2) := by decide +kernel
theorem d_Pages_become_42 : decode m_Pages_become.2.1 42 = .ok (.invokestatic 27, 3) := by decide +kernel
theorem d_Pages_become_45 : decode m_Pages_become.2.1 45 = .ok (.aload_n 1, 1) := by decide +kernel
theorem d_Pages_become_46 : decode m_Pages_become.2.1 46 = .ok (.getfield 21, 3) := by decide +kernel
theorem d_Pages_become_49 : decode m_Pages_become.2.1 49 = .ok (.iconst 0, 1) := by decide +kernel
theorem d_Pages_become_50 : decode m_Pages_become.2.1 50 = .ok (.aload_n 0, 1) := by decide +kernel
theorem d_Pages_become_51 : decode m_Pages_become.2.1 51 = .ok (.getfield 21, 3) := by decide +kernel
theorem d_Pages_become_54 : decode m_Pages_become.2.1 54 = .ok (.iconst 0, 1) := by decide +kernel
theorem d_Pages_become_55 : decode m_Pages_become.2.1 55 = .ok (.bipush 10, 2) := by decide +kernel
theorem d_Pages_become_57 : decode m_Pages_become.2.1 57 = .ok (.invokestatic 27, 3) := by decide +kernel
theorem d_Pages_become_60 : decode m_Pages_become.2.1 60 = .ok (.aload_n 1, 1) := by decide +kernel
theorem d_Pages_become_61 : decode m_Pages_become.2.1 61 = .ok (.getfield 24, 3) := by decide +kernel
theorem d_Pages_become_64 : decode m_Pages_become.2.1 64 = .ok (.iconst 0, 1) := by decide +kernel
theorem d_Pages_become_65 : decode m_Pages_become.2.1 65 = .ok (.aload_n 0, 1) := by decide +kernel
theorem d_Pages_become_66 : decode m_Pages_become.2.1 66 = .ok (.getfield 24, 3) := by decide +kernel
theorem d_Pages_become_69 : decode m_Pages_become.2.1 69 = .ok (.iconst 0, 1) := by decide +kernel
theorem d_Pages_become_70 : decode m_Pages_become.2.1 70 = .ok (.bipush 10, 2) := by decide +kernel
theorem d_Pages_become_72 : decode m_Pages_become.2.1 72 = .ok (.invokestatic 27, 3) := by decide +kernel
theorem d_Pages_become_75 : decode m_Pages_become.2.1 75 = .ok (.aload_n 0, 1) := by decide +kernel
theorem d_Pages_become_76 : decode m_Pages_become.2.1 76 = .ok (.aload_n 1, 1) := by decide +kernel
theorem d_Pages_become_77 : decode m_Pages_become.2.1 77 = .ok (.getfield 33, 3) := by decide +kernel
theorem d_Pages_become_80 : decode m_Pages_become.2.1 80 = .ok (.putfield 33, 3) := by decide +kernel
theorem d_Pages_become_83 : decode m_Pages_become.2.1 83 = .ok (.return_, 1) := by decide +kernel
theorem d_Pages_behind_0 : decode m_Pages_behind.2.1 0 = .ok (.iconst 0, 1) := by decide +kernel
theorem d_Pages_behind_1 : decode m_Pages_behind.2.1 1 = .ok (.istore_n 3, 1) := by decide +kernel
theorem d_Pages_behind_2 : decode m_Pages_behind.2.1 2 = .ok (.iconst 0, 1) := by decide +kernel
end
section
theorem d_Pages_behind_3 : decode m_Pages_behind.2.1 3 = .ok (.istore 4, 2) := by decide +kernel
theorem d_Pages_behind_5 : decode m_Pages_behind.2.1 5 = .ok (.iload 4, 2) := by decide +kernel
theorem d_Pages_behind_7 : decode m_Pages_behind.2.1 7 = .ok (.aload_n 0, 1) := by decide +kernel
theorem d_Pages_behind_8 : decode m_Pages_behind.2.1 8 = .ok (.getfield 33, 3) := by decide +kernel
theorem d_Pages_behind_11 : decode m_Pages_behind.2.1 11 = .ok (.if_icmp .ge 63, 3) := by decide +kernel
theorem d_Pages_behind_14 : decode m_Pages_behind.2.1 14 = .ok (.iload_n 1, 1) := by decide +kernel
theorem d_Pages_behind_15 : decode m_Pages_behind.2.1 15 = .ok (.iload 4, 2) := by decide +kernel
theorem d_Pages_behind_17 : decode m_Pages_behind.2.1 17 = .ok (.invokestatic 37, 3) := by decide +kernel
theorem d_Pages_behind_20 : decode m_Pages_behind.2.1 20 = .ok (.ifCond .eq 48, 3) := by decide +kernel
theorem d_Pages_behind_23 : decode m_Pages_behind.2.1 23 = .ok (.iload_n 3, 1) := by decide +kernel
theorem d_Pages_behind_24 : decode m_Pages_behind.2.1 24 = .ok (.aload_n 0, 1) := by decide +kernel
theorem d_Pages_behind_25 : decode m_Pages_behind.2.1 25 = .ok (.getfield 15, 3) := by decide +kernel
theorem d_Pages_behind_28 : decode m_Pages_behind.2.1 28 = .ok (.iload 4, 2) := by decide +kernel
theorem d_Pages_behind_30 : decode m_Pages_behind.2.1 30 = .ok (.iaload, 1) := by decide +kernel
theorem d_Pages_behind_31 : decode m_Pages_behind.2.1 31 = .ok (.invokestatic 41, 3) := by decide +kernel
theorem d_Pages_behind_34 : decode m_Pages_behind.2.1 34 = .ok (.aload_n 0, 1) := by decide +kernel
theorem d_Pages_behind_35 : decode m_Pages_behind.2.1 35 = .ok (.getfield 18, 3) := by decide +kernel
theorem d_Pages_behind_38 : decode m_Pages_behind.2.1 38 = .ok (.iload 4, 2) := by decide +kernel
theorem d_Pages_behind_40 : decode m_Pages_behind.2.1 40 = .ok (.iaload, 1) := by decide +kernel
theorem d_Pages_behind_41 : decode m_Pages_behind.2.1 41 = .ok (.invokestatic 41, 3) := by decide +kernel
theorem d_Pages_behind_44 : decode m_Pages_behind.2.1 44 = .ok (.ior, 1) := by decide +kernel
theorem d_Pages_behind_45 : decode m_Pages_behind.2.1 45 = .ok (.ior, 1) := by decide +kernel
theorem d_Pages_behind_46 : decode m_Pages_behind.2.1 46 = .ok (.istore_n 3, 1) := by decide +kernel
theorem d_Pages_behind_47 : decode m_Pages_behind.2.1 47 = .ok (.iload_n 3, 1) := by decide +kernel
theorem d_Pages_behind_48 : decode m_Pages_behind.2.1 48 = .ok (.iload_n 2, 1) := by decide +kernel
theorem d_Pages_behind_49 : decode m_Pages_behind.2.1 49 = .ok (.ifCond .eq 16, 3) := by decide +kernel
theorem d_Pages_behind_52 : decode m_Pages_behind.2.1 52 = .ok (.aload_n 0, 1) := by decide +kernel
theorem d_Pages_behind_53 : decode m_Pages_behind.2.1 53 = .ok (.getfield 21, 3) := by decide +kernel
theorem d_Pages_behind_56 : decode m_Pages_behind.2.1 56 = .ok (.iload 4, 2) := by decide +kernel
theorem d_Pages_behind_58 : decode m_Pages_behind.2.1 58 = .ok (.iaload, 1) := by decide +kernel
theorem d_Pages_behind_59 : decode m_Pages_behind.2.1 59 = .ok (.invokestatic 41, 3) := by decide +kernel
theorem d_Pages_behind_62 : decode m_Pages_behind.2.1 62 = .ok (.goto 4, 3) := by decide +kernel
theorem d_Pages_behind_65 : decode m_Pages_behind.2.1 65 = .ok (.iconst 0, 1) := by decide +kernel
theorem d_Pages_behind_66 : decode m_Pages_behind.2.1 66 = .ok (.ior, 1) := by decide +kernel
theorem d_Pages_behind_67 : decode m_Pages_behind.2.1 67 = .ok (.istore_n 3, 1) := by decide +kernel
theorem d_Pages_behind_68 : decode m_Pages_behind.2.1 68 = .ok (.iinc 4 1, 3) := by decide +kernel
theorem d_Pages_behind_71 : decode m_Pages_behind.2.1 71 = .ok (.goto (-66), 3) := by decide +kernel
theorem d_Pages_behind_74 : decode m_Pages_behind.2.1 74 = .ok (.iload_n 3, 1) := by decide +kernel
theorem d_Pages_behind_75 : decode m_Pages_behind.2.1 75 = .ok (.ireturn, 1) := by decide +kernel
theorem d_Pages_bitOf_0 : decode m_Pages_bitOf.2.1 0 = .ok (.iload_n 0, 1) := by decide +kernel
theorem d_Pages_bitOf_1 : decode m_Pages_bitOf.2.1 1 = .ok (.bipush (-6), 2) := by decide +kernel
theorem d_Pages_bitOf_3 : decode m_Pages_bitOf.2.1 3 = .ok (.if_icmp .ne 7, 3) := by decide +kernel
theorem d_Pages_bitOf_6 : decode m_Pages_bitOf.2.1 6 = .ok (.iconst 0, 1) := by decide +kernel
theorem d_Pages_bitOf_7 : decode m_Pages_bitOf.2.1 7 = .ok (.goto 6, 3) := by decide +kernel
theorem d_Pages_bitOf_10 : decode m_Pages_bitOf.2.1 10 = .ok (.iconst 1, 1) := by decide +kernel
theorem d_Pages_bitOf_11 : decode m_Pages_bitOf.2.1 11 = .ok (.iload_n 0, 1) := by decide +kernel
theorem d_Pages_bitOf_12 : decode m_Pages_bitOf.2.1 12 = .ok (.ishl, 1) := by decide +kernel
theorem d_Pages_bitOf_13 : decode m_Pages_bitOf.2.1 13 = .ok (.ireturn, 1) := by decide +kernel
theorem d_Pages_clearMaking_0 : decode m_Pages_clearMaking.2.1 0 = .ok (.aload_n 0, 1) := by decide +kernel
theorem d_Pages_clearMaking_1 : decode m_Pages_clearMaking.2.1 1 = .ok (.getfield 9, 3) := by decide +kernel
theorem d_Pages_clearMaking_4 : decode m_Pages_clearMaking.2.1 4 = .ok (.iload_n 1, 1) := by decide +kernel
theorem d_Pages_clearMaking_5 : decode m_Pages_clearMaking.2.1 5 = .ok (.iconst 0, 1) := by decide +kernel
theorem d_Pages_clearMaking_6 : decode m_Pages_clearMaking.2.1 6 = .ok (.iastore, 1) := by decide +kernel
theorem d_Pages_clearMaking_7 : decode m_Pages_clearMaking.2.1 7 = .ok (.aload_n 0, 1) := by decide +kernel
theorem d_Pages_clearMaking_8 : decode m_Pages_clearMaking.2.1 8 = .ok (.getfield 15, 3) := by decide +kernel
theorem d_Pages_clearMaking_11 : decode m_Pages_clearMaking.2.1 11 = .ok (.iload_n 1, 1) := by decide +kernel
theorem d_Pages_clearMaking_12 : decode m_Pages_clearMaking.2.1 12 = .ok (.bipush (-6), 2) := by decide +kernel
theorem d_Pages_clearMaking_14 : decode m_Pages_clearMaking.2.1 14 = .ok (.iastore, 1) := by decide +kernel
theorem d_Pages_clearMaking_15 : decode m_Pages_clearMaking.2.1 15 = .ok (.aload_n 0, 1) := by decide +kernel
theorem d_Pages_clearMaking_16 : decode m_Pages_clearMaking.2.1 16 = .ok (.getfield 18, 3) := by decide +kernel
theorem d_Pages_clearMaking_19 : decode m_Pages_clearMaking.2.1 19 = .ok (.iload_n 1, 1) := by decide +kernel
theorem d_Pages_clearMaking_20 : decode m_Pages_clearMaking.2.1 20 = .ok (.bipush (-6), 2) := by decide +kernel
theorem d_Pages_clearMaking_22 : decode m_Pages_clearMaking.2.1 22 = .ok (.iastore, 1) := by decide +kernel
theorem d_Pages_clearMaking_23 : decode m_Pages_clearMaking.2.1 23 = .ok (.aload_n 0, 1) := by decide +kernel
theorem d_Pages_clearMaking_24 : decode m_Pages_clearMaking.2.1 24 = .ok (.getfield 21, 3) := by decide +kernel
theorem d_Pages_clearMaking_27 : decode m_Pages_clearMaking.2.1 27 = .ok (.iload_n 1, 1) := by decide +kernel
theorem d_Pages_clearMaking_28 : decode m_Pages_clearMaking.2.1 28 = .ok (.bipush (-6), 2) := by decide +kernel
theorem d_Pages_clearMaking_30 : decode m_Pages_clearMaking.2.1 30 = .ok (.iastore, 1) := by decide +kernel
theorem d_Pages_clearMaking_31 : decode m_Pages_clearMaking.2.1 31 = .ok (.aload_n 0, 1) := by decide +kernel
theorem d_Pages_clearMaking_32 : decode m_Pages_clearMaking.2.1 32 = .ok (.getfield 24, 3) := by decide +kernel
theorem d_Pages_clearMaking_35 : decode m_Pages_clearMaking.2.1 35 = .ok (.iload_n 1, 1) := by decide +kernel
theorem d_Pages_clearMaking_36 : decode m_Pages_clearMaking.2.1 36 = .ok (.iconst 0, 1) := by decide +kernel
theorem d_Pages_clearMaking_37 : decode m_Pages_clearMaking.2.1 37 = .ok (.iastore, 1) := by decide +kernel
theorem d_Pages_clearMaking_38 : decode m_Pages_clearMaking.2.1 38 = .ok (.return_, 1) := by decide +kernel
theorem d_Pages_handsOf_0 : decode m_Pages_handsOf.2.1 0 = .ok (.iconst 0, 1) := by decide +kernel
theorem d_Pages_handsOf_1 : decode m_Pages_handsOf.2.1 1 = .ok (.istore_n 2, 1) := by decide +kernel
theorem d_Pages_handsOf_2 : decode m_Pages_handsOf.2.1 2 = .ok (.iconst 0, 1) := by decide +kernel
theorem d_Pages_handsOf_3 : decode m_Pages_handsOf.2.1 3 = .ok (.istore_n 3, 1) := by decide +kernel
theorem d_Pages_handsOf_4 : decode m_Pages_handsOf.2.1 4 = .ok (.iload_n 3, 1) := by decide +kernel
theorem d_Pages_handsOf_5 : decode m_Pages_handsOf.2.1 5 = .ok (.aload_n 0, 1) := by decide +kernel
theorem d_Pages_handsOf_6 : decode m_Pages_handsOf.2.1 6 = .ok (.getfield 33, 3) := by decide +kernel
theorem d_Pages_handsOf_9 : decode m_Pages_handsOf.2.1 9 = .ok (.if_icmp .ge 26, 3) := by decide +kernel
theorem d_Pages_handsOf_12 : decode m_Pages_handsOf.2.1 12 = .ok (.iload_n 1, 1) := by decide +kernel
theorem d_Pages_handsOf_13 : decode m_Pages_handsOf.2.1 13 = .ok (.iload_n 3, 1) := by decide +kernel
theorem d_Pages_handsOf_14 : decode m_Pages_handsOf.2.1 14 = .ok (.invokestatic 37, 3) := by decide +kernel
theorem d_Pages_handsOf_17 : decode m_Pages_handsOf.2.1 17 = .ok (.ifCond .eq 12, 3) := by decide +kernel
theorem d_Pages_handsOf_20 : decode m_Pages_handsOf.2.1 20 = .ok (.iload_n 2, 1) := by decide +kernel
theorem d_Pages_handsOf_21 : decode m_Pages_handsOf.2.1 21 = .ok (.aload_n 0, 1) := by decide +kernel
theorem d_Pages_handsOf_22 : decode m_Pages_handsOf.2.1 22 = .ok (.getfield 9, 3) := by decide +kernel
theorem d_Pages_handsOf_25 : decode m_Pages_handsOf.2.1 25 = .ok (.iload_n 3, 1) := by decide +kernel
theorem d_Pages_handsOf_26 : decode m_Pages_handsOf.2.1 26 = .ok (.iaload, 1) := by decide +kernel
theorem d_Pages_handsOf_27 : decode m_Pages_handsOf.2.1 27 = .ok (.ior, 1) := by decide +kernel
theorem d_Pages_handsOf_28 : decode m_Pages_handsOf.2.1 28 = .ok (.istore_n 2, 1) := by decide +kernel
theorem d_Pages_handsOf_29 : decode m_Pages_handsOf.2.1 29 = .ok (.iinc 3 1, 3) := by decide +kernel
theorem d_Pages_handsOf_32 : decode m_Pages_handsOf.2.1 32 = .ok (.goto (-28), 3) := by decide +kernel
theorem d_Pages_handsOf_35 : decode m_Pages_handsOf.2.1 35 = .ok (.iload_n 2, 1) := by decide +kernel
theorem d_Pages_handsOf_36 : decode m_Pages_handsOf.2.1 36 = .ok (.ireturn, 1) := by decide +kernel
theorem d_Pages_init_0 : decode m_Pages_init.2.1 0 = .ok (.aload_n 0, 1) := by decide +kernel
theorem d_Pages_init_1 : decode m_Pages_init.2.1 1 = .ok (.invokespecial 3, 3) := by decide +kernel
theorem d_Pages_init_4 : decode m_Pages_init.2.1 4 = .ok (.aload_n 0, 1) := by decide +kernel
theorem d_Pages_init_5 : decode m_Pages_init.2.1 5 = .ok (.bipush 10, 2) := by decide +kernel
theorem d_Pages_init_7 : decode m_Pages_init.2.1 7 = .ok (.newarray .int, 2) := by decide +kernel
theorem d_Pages_init_9 : decode m_Pages_init.2.1 9 = .ok (.putfield 9, 3) := by decide +kernel
theorem d_Pages_init_12 : decode m_Pages_init.2.1 12 = .ok (.aload_n 0, 1) := by decide +kernel
theorem d_Pages_init_13 : decode m_Pages_init.2.1 13 = .ok (.bipush 10, 2) := by decide +kernel
theorem d_Pages_init_15 : decode m_Pages_init.2.1 15 = .ok (.newarray .int, 2) := by decide +kernel
theorem d_Pages_init_17 : decode m_Pages_init.2.1 17 = .ok (.putfield 15, 3) := by decide +kernel
theorem d_Pages_init_20 : decode m_Pages_init.2.1 20 = .ok (.aload_n 0, 1) := by decide +kernel
theorem d_Pages_init_21 : decode m_Pages_init.2.1 21 = .ok (.bipush 10, 2) := by decide +kernel
theorem d_Pages_init_23 : decode m_Pages_init.2.1 23 = .ok (.newarray .int, 2) := by decide +kernel
theorem d_Pages_init_25 : decode m_Pages_init.2.1 25 = .ok (.putfield 18, 3) := by decide +kernel
theorem d_Pages_init_28 : decode m_Pages_init.2.1 28 = .ok (.aload_n 0, 1) := by decide +kernel
theorem d_Pages_init_29 : decode m_Pages_init.2.1 29 = .ok (.bipush 10, 2) := by decide +kernel
theorem d_Pages_init_31 : decode m_Pages_init.2.1 31 = .ok (.newarray .int, 2) := by decide +kernel
theorem d_Pages_init_33 : decode m_Pages_init.2.1 33 = .ok (.putfield 21, 3) := by decide +kernel
theorem d_Pages_init_36 : decode m_Pages_init.2.1 36 = .ok (.aload_n 0, 1) := by decide +kernel
theorem d_Pages_init_37 : decode m_Pages_init.2.1 37 = .ok (.bipush 10, 2) := by decide +kernel
theorem d_Pages_init_39 : decode m_Pages_init.2.1 39 = .ok (.newarray .int, 2) := by decide +kernel
theorem d_Pages_init_41 : decode m_Pages_init.2.1 41 = .ok (.putfield 24, 3) := by decide +kernel
theorem d_Pages_init_44 : decode m_Pages_init.2.1 44 = .ok (.return_, 1) := by decide +kernel
theorem d_Reader_hasRoomForHand_0 : decode m_Reader_hasRoomForHand.2.1 0 = .ok (.aload_n 0, 1) := by decide +kernel
theorem d_Reader_hasRoomForHand_1 : decode m_Reader_hasRoomForHand.2.1 1 = .ok (.getfield 26, 3) := by decide +kernel
theorem d_Reader_hasRoomForHand_4 : decode m_Reader_hasRoomForHand.2.1 4 = .ok (.iconst 2, 1) := by decide +kernel
theorem d_Reader_hasRoomForHand_5 : decode m_Reader_hasRoomForHand.2.1 5 = .ok (.if_icmp .eq 31, 3) := by decide +kernel
theorem d_Reader_hasRoomForHand_8 : decode m_Reader_hasRoomForHand.2.1 8 = .ok (.aload_n 0, 1) := by decide +kernel
theorem d_Reader_hasRoomForHand_9 : decode m_Reader_hasRoomForHand.2.1 9 = .ok (.getfield 26, 3) := by decide +kernel
theorem d_Reader_hasRoomForHand_12 : decode m_Reader_hasRoomForHand.2.1 12 = .ok (.iconst 4, 1) := by decide +kernel
theorem d_Reader_hasRoomForHand_13 : decode m_Reader_hasRoomForHand.2.1 13 = .ok (.if_icmp .eq 23, 3) := by decide +kernel
theorem d_Reader_hasRoomForHand_16 : decode m_Reader_hasRoomForHand.2.1 16 = .ok (.aload_n 0, 1) := by decide +kernel
theorem d_Reader_hasRoomForHand_17 : decode m_Reader_hasRoomForHand.2.1 17 = .ok (.getfield 12, 3) := by decide +kernel
theorem d_Reader_hasRoomForHand_20 : decode m_Reader_hasRoomForHand.2.1 20 = .ok (.getfield 71, 3) := by decide +kernel
theorem d_Reader_hasRoomForHand_23 : decode m_Reader_hasRoomForHand.2.1 23 = .ok (.iload_n 1, 1) := by decide +kernel
theorem d_Reader_hasRoomForHand_24 : decode m_Reader_hasRoomForHand.2.1 24 = .ok (.iaload, 1) := by decide +kernel
theorem d_Reader_hasRoomForHand_25 : decode m_Reader_hasRoomForHand.2.1 25 = .ok (.invokestatic 74, 3) := by decide +kernel
theorem d_Reader_hasRoomForHand_28 : decode m_Reader_hasRoomForHand.2.1 28 = .ok (.iconst 3, 1) := by decide +kernel
theorem d_Reader_hasRoomForHand_29 : decode m_Reader_hasRoomForHand.2.1 29 = .ok (.if_icmp .ge 7, 3) := by decide +kernel
theorem d_Reader_hasRoomForHand_32 : decode m_Reader_hasRoomForHand.2.1 32 = .ok (.iconst 1, 1) := by decide +kernel
theorem d_Reader_hasRoomForHand_33 : decode m_Reader_hasRoomForHand.2.1 33 = .ok (.goto 4, 3) := by decide +kernel
theorem d_Reader_hasRoomForHand_36 : decode m_Reader_hasRoomForHand.2.1 36 = .ok (.iconst 0, 1) := by decide +kernel
theorem d_Reader_hasRoomForHand_37 : decode m_Reader_hasRoomForHand.2.1 37 = .ok (.ireturn, 1) := by decide +kernel
theorem d_Reader_init_0 : decode m_Reader_init.2.1 0 = .ok (.aload_n 0, 1) := by decide +kernel
theorem d_Reader_init_1 : decode m_Reader_init.2.1 1 = .ok (.invokespecial 3, 3) := by decide +kernel
theorem d_Reader_init_4 : decode m_Reader_init.2.1 4 = .ok (.aload_n 0, 1) := by decide +kernel
theorem d_Reader_init_5 : decode m_Reader_init.2.1 5 = .ok (.new 9, 3) := by decide +kernel
theorem d_Reader_init_8 : decode m_Reader_init.2.1 8 = .ok (.dup, 1) := by decide +kernel
theorem d_Reader_init_9 : decode m_Reader_init.2.1 9 = .ok (.invokespecial 11, 3) := by decide +kernel
theorem d_Reader_init_12 : decode m_Reader_init.2.1 12 = .ok (.putfield 12, 3) := by decide +kernel
theorem d_Reader_init_15 : decode m_Reader_init.2.1 15 = .ok (.return_, 1) := by decide +kernel
theorem d_Reader_read_0 : decode m_Reader_read.2.1 0 = .ok (.aload_n 0, 1) := by decide +kernel
theorem d_Reader_read_1 : decode m_Reader_read.2.1 1 = .ok (.getfield 12, 3) := by decide +kernel
theorem d_Reader_read_4 : decode m_Reader_read.2.1 4 = .ok (.iconst 0, 1) := by decide +kernel
theorem d_Reader_read_5 : decode m_Reader_read.2.1 5 = .ok (.putfield 18, 3) := by decide +kernel
theorem d_Reader_read_8 : decode m_Reader_read.2.1 8 = .ok (.aload_n 0, 1) := by decide +kernel
theorem d_Reader_read_9 : decode m_Reader_read.2.1 9 = .ok (.getfield 12, 3) := by decide +kernel
theorem d_Reader_read_12 : decode m_Reader_read.2.1 12 = .ok (.iconst 0, 1) := by decide +kernel
theorem d_Reader_read_13 : decode m_Reader_read.2.1 13 = .ok (.invokevirtual 22, 3) := by decide +kernel
theorem d_Reader_read_16 : decode m_Reader_read.2.1 16 = .ok (.aload_n 0, 1) := by decide +kernel
theorem d_Reader_read_17 : decode m_Reader_read.2.1 17 = .ok (.iconst 0, 1) := by decide +kernel
theorem d_Reader_read_18 : decode m_Reader_read.2.1 18 = .ok (.putfield 26, 3) := by decide +kernel
theorem d_Reader_read_21 : decode m_Reader_read.2.1 21 = .ok (.aload_n 0, 1) := by decide +kernel
theorem d_Reader_read_22 : decode m_Reader_read.2.1 22 = .ok (.iconst 0, 1) := by decide +kernel
theorem d_Reader_read_23 : decode m_Reader_read.2.1 23 = .ok (.putfield 29, 3) := by decide +kernel
theorem d_Reader_read_26 : decode m_Reader_read.2.1 26 = .ok (.iconst 0, 1) := by decide +kernel
theorem d_Reader_read_27 : decode m_Reader_read.2.1 27 = .ok (.istore_n 2, 1) := by decide +kernel
theorem d_Reader_read_28 : decode m_Reader_read.2.1 28 = .ok (.iload_n 2, 1) := by decide +kernel
theorem d_Reader_read_29 : decode m_Reader_read.2.1 29 = .ok (.aload_n 1, 1) := by decide +kernel
theorem d_Reader_read_30 : decode m_Reader_read.2.1 30 = .ok (.getfield 32, 3) := by decide +kernel
theorem d_Reader_read_33 : decode m_Reader_read.2.1 33 = .ok (.if_icmp .ge 24, 3) := by decide +kernel
theorem d_Reader_read_36 : decode m_Reader_read.2.1 36 = .ok (.aload_n 0, 1) := by decide +kernel
theorem d_Reader_read_37 : decode m_Reader_read.2.1 37 = .ok (.aload_n 1, 1) := by decide +kernel
theorem d_Reader_read_38 : decode m_Reader_read.2.1 38 = .ok (.getfield 35, 3) := by decide +kernel
theorem d_Reader_read_41 : decode m_Reader_read.2.1 41 = .ok (.iload_n 2, 1) := by decide +kernel
theorem d_Reader_read_42 : decode m_Reader_read.2.1 42 = .ok (.iaload, 1) := by decide +kernel
theorem d_Reader_read_43 : decode m_Reader_read.2.1 43 = .ok (.invokevirtual 39, 3) := by decide +kernel
theorem d_Reader_read_46 : decode m_Reader_read.2.1 46 = .ok (.ifCond .ne 5, 3) := by decide +kernel
theorem d_Reader_read_49 : decode m_Reader_read.2.1 49 = .ok (.iload_n 2, 1) := by decide +kernel
theorem d_Reader_read_50 : decode m_Reader_read.2.1 50 = .ok (.ireturn, 1) := by decide +kernel
theorem d_Reader_read_51 : decode m_Reader_read.2.1 51 = .ok (.iinc 2 1, 3) := by decide +kernel
theorem d_Reader_read_54 : decode m_Reader_read.2.1 54 = .ok (.goto (-26), 3) := by decide +kernel
theorem d_Reader_read_57 : decode m_Reader_read.2.1 57 = .ok (.aload_n 0, 1) := by decide +kernel
theorem d_Reader_read_58 : decode m_Reader_read.2.1 58 = .ok (.getfield 26, 3) := by decide +kernel
theorem d_Reader_read_61 : decode m_Reader_read.2.1 61 = .ok (.ifCond .ne 8, 3) := by decide +kernel
theorem d_Reader_read_64 : decode m_Reader_read.2.1 64 = .ok (.bipush (-6), 2) := by decide +kernel
theorem d_Reader_read_66 : decode m_Reader_read.2.1 66 = .ok (.goto 7, 3) := by decide +kernel
theorem d_Reader_read_69 : decode m_Reader_read.2.1 69 = .ok (.aload_n 1, 1) := by decide +kernel
theorem d_Reader_read_70 : decode m_Reader_read.2.1 70 = .ok (.getfield 32, 3) := by decide +kernel
theorem d_Reader_read_73 : decode m_Reader_read.2.1 73 = .ok (.ireturn, 1) := by decide +kernel
theorem d_Reader_takes_0 : decode m_Reader_takes.2.1 0 = .ok (.aload_n 0, 1) := by decide +kernel
theorem d_Reader_takes_1 : decode m_Reader_takes.2.1 1 = .ok (.getfield 12, 3) := by decide +kernel
theorem d_Reader_takes_4 : decode m_Reader_takes.2.1 4 = .ok (.getfield 18, 3) := by decide +kernel
theorem d_Reader_takes_7 : decode m_Reader_takes.2.1 7 = .ok (.istore_n 2, 1) := by decide +kernel
theorem d_Reader_takes_8 : decode m_Reader_takes.2.1 8 = .ok (.iload_n 2, 1) := by decide +kernel
theorem d_Reader_takes_9 : decode m_Reader_takes.2.1 9 = .ok (.bipush 10, 2) := by decide +kernel
theorem d_Reader_takes_11 : decode m_Reader_takes.2.1 11 = .ok (.if_icmp .lt 5, 3) := by decide +kernel
theorem d_Reader_takes_14 : decode m_Reader_takes.2.1 14 = .ok (.iconst 0, 1) := by decide +kernel
theorem d_Reader_takes_15 : decode m_Reader_takes.2.1 15 = .ok (.ireturn, 1) := by decide +kernel
theorem d_Reader_takes_16 : decode m_Reader_takes.2.1 16 = .ok (.iload_n 1, 1) := by decide +kernel
theorem d_Reader_takes_17 : decode m_Reader_takes.2.1 17 = .ok (.bipush 97, 2) := by decide +kernel
theorem d_Reader_takes_19 : decode m_Reader_takes.2.1 19 = .ok (.if_icmp .lt 41, 3) := by decide +kernel
theorem d_Reader_takes_22 : decode m_Reader_takes.2.1 22 = .ok (.iload_n 1, 1) := by decide +kernel
theorem d_Reader_takes_23 : decode m_Reader_takes.2.1 23 = .ok (.bipush 97, 2) := by decide +kernel
theorem d_Reader_takes_25 : decode m_Reader_takes.2.1 25 = .ok (.iload_n 2, 1) := by decide +kernel
theorem d_Reader_takes_26 : decode m_Reader_takes.2.1 26 = .ok (.iadd, 1) := by decide +kernel
theorem d_Reader_takes_27 : decode m_Reader_takes.2.1 27 = .ok (.if_icmp .ge 33, 3) := by decide +kernel
theorem d_Reader_takes_30 : decode m_Reader_takes.2.1 30 = .ok (.aload_n 0, 1) := by decide +kernel
theorem d_Reader_takes_31 : decode m_Reader_takes.2.1 31 = .ok (.getfield 26, 3) := by decide +kernel
theorem d_Reader_takes_34 : decode m_Reader_takes.2.1 34 = .ok (.iconst 2, 1) := by decide +kernel
theorem d_Reader_takes_35 : decode m_Reader_takes.2.1 35 = .ok (.if_icmp .ne 15, 3) := by decide +kernel
theorem d_Reader_takes_38 : decode m_Reader_takes.2.1 38 = .ok (.aload_n 0, 1) := by decide +kernel
theorem d_Reader_takes_39 : decode m_Reader_takes.2.1 39 = .ok (.iload_n 2, 1) := by decide +kernel
theorem d_Reader_takes_40 : decode m_Reader_takes.2.1 40 = .ok (.iload_n 1, 1) := by decide +kernel
theorem d_Reader_takes_41 : decode m_Reader_takes.2.1 41 = .ok (.bipush 97, 2) := by decide +kernel
theorem d_Reader_takes_43 : decode m_Reader_takes.2.1 43 = .ok (.isub, 1) := by decide +kernel
theorem d_Reader_takes_44 : decode m_Reader_takes.2.1 44 = .ok (.invokevirtual 43, 3) := by decide +kernel
theorem d_Reader_takes_47 : decode m_Reader_takes.2.1 47 = .ok (.goto 12, 3) := by decide +kernel
theorem d_Reader_takes_50 : decode m_Reader_takes.2.1 50 = .ok (.aload_n 0, 1) := by decide +kernel
theorem d_Reader_takes_51 : decode m_Reader_takes.2.1 51 = .ok (.iload_n 2, 1) := by decide +kernel
theorem d_Reader_takes_52 : decode m_Reader_takes.2.1 52 = .ok (.iload_n 1, 1) := by decide +kernel
theorem d_Reader_takes_53 : decode m_Reader_takes.2.1 53 = .ok (.bipush 97, 2) := by decide +kernel
theorem d_Reader_takes_55 : decode m_Reader_takes.2.1 55 = .ok (.isub, 1) := by decide +kernel
theorem d_Reader_takes_56 : decode m_Reader_takes.2.1 56 = .ok (.invokevirtual 47, 3) := by decide +kernel
theorem d_Reader_takes_59 : decode m_Reader_takes.2.1 59 = .ok (.ireturn, 1) := by decide +kernel
theorem d_Reader_takes_60 : decode m_Reader_takes.2.1 60 = .ok (.iload_n 1, 1) := by decide +kernel
theorem d_Reader_takes_61 : decode m_Reader_takes.2.1 61 = .ok (.bipush 65, 2) := by decide +kernel
theorem d_Reader_takes_63 : decode m_Reader_takes.2.1 63 = .ok (.if_icmp .lt 19, 3) := by decide +kernel
theorem d_Reader_takes_66 : decode m_Reader_takes.2.1 66 = .ok (.iload_n 1, 1) := by decide +kernel
theorem d_Reader_takes_67 : decode m_Reader_takes.2.1 67 = .ok (.bipush 71, 2) := by decide +kernel
theorem d_Reader_takes_69 : decode m_Reader_takes.2.1 69 = .ok (.if_icmp .ge 13, 3) := by decide +kernel
theorem d_Reader_takes_72 : decode m_Reader_takes.2.1 72 = .ok (.aload_n 0, 1) := by decide +kernel
theorem d_Reader_takes_73 : decode m_Reader_takes.2.1 73 = .ok (.iload_n 2, 1) := by decide +kernel
theorem d_Reader_takes_74 : decode m_Reader_takes.2.1 74 = .ok (.iload_n 1, 1) := by decide +kernel
theorem d_Reader_takes_75 : decode m_Reader_takes.2.1 75 = .ok (.bipush 65, 2) := by decide +kernel
theorem d_Reader_takes_77 : decode m_Reader_takes.2.1 77 = .ok (.isub, 1) := by decide +kernel
theorem d_Reader_takes_78 : decode m_Reader_takes.2.1 78 = .ok (.invokevirtual 50, 3) := by decide +kernel
theorem d_Reader_takes_81 : decode m_Reader_takes.2.1 81 = .ok (.ireturn, 1) := by decide +kernel
theorem d_Reader_takes_82 : decode m_Reader_takes.2.1 82 = .ok (.iload_n 1, 1) := by decide +kernel
theorem d_Reader_takes_83 : decode m_Reader_takes.2.1 83 = .ok (.lookupswitch 51 #[(43, 33), (59, 45), (63, 39)], 33) := by decide +kernel
theorem d_Reader_takes_116 : decode m_Reader_takes.2.1 116 = .ok (.aload_n 0, 1) := by decide +kernel
theorem d_Reader_takes_117 : decode m_Reader_takes.2.1 117 = .ok (.iload_n 2, 1) := by decide +kernel
theorem d_Reader_takes_118 : decode m_Reader_takes.2.1 118 = .ok (.invokevirtual 53, 3) := by decide +kernel
theorem d_Reader_takes_121 : decode m_Reader_takes.2.1 121 = .ok (.ireturn, 1) := by decide +kernel
theorem d_Reader_takes_122 : decode m_Reader_takes.2.1 122 = .ok (.aload_n 0, 1) := by decide +kernel
theorem d_Reader_takes_123 : decode m_Reader_takes.2.1 123 = .ok (.iload_n 2, 1) := by decide +kernel
theorem d_Reader_takes_124 : decode m_Reader_takes.2.1 124 = .ok (.invokevirtual 56, 3) := by decide +kernel
theorem d_Reader_takes_127 : decode m_Reader_takes.2.1 127 = .ok (.ireturn, 1) := by decide +kernel
theorem d_Reader_takes_128 : decode m_Reader_takes.2.1 128 = .ok (.aload_n 0, 1) := by decide +kernel
theorem d_Reader_takes_129 : decode m_Reader_takes.2.1 129 = .ok (.iload_n 2, 1) := by decide +kernel
theorem d_Reader_takes_130 : decode m_Reader_takes.2.1 130 = .ok (.invokevirtual 59, 3) := by decide +kernel
theorem d_Reader_takes_133 : decode m_Reader_takes.2.1 133 = .ok (.ireturn, 1) := by decide +kernel
theorem d_Reader_takes_134 : decode m_Reader_takes.2.1 134 = .ok (.iconst 0, 1) := by decide +kernel
theorem d_Reader_takes_135 : decode m_Reader_takes.2.1 135 = .ok (.ireturn, 1) := by decide +kernel
theorem d_Reader_takesAsk_0 : decode m_Reader_takesAsk.2.1 0 = .ok (.aload_n 0, 1) := by decide +kernel
theorem d_Reader_takesAsk_1 : decode m_Reader_takesAsk.2.1 1 = .ok (.iload_n 1, 1) := by decide +kernel
theorem d_Reader_takesAsk_2 : decode m_Reader_takesAsk.2.1 2 = .ok (.invokevirtual 80, 3) := by decide +kernel
theorem d_Reader_takesAsk_5 : decode m_Reader_takesAsk.2.1 5 = .ok (.ifCond .eq 11, 3) := by decide +kernel
theorem d_Reader_takesAsk_8 : decode m_Reader_takesAsk.2.1 8 = .ok (.aload_n 0, 1) := by decide +kernel
theorem d_Reader_takesAsk_9 : decode m_Reader_takesAsk.2.1 9 = .ok (.getfield 29, 3) := by decide +kernel
theorem d_Reader_takesAsk_12 : decode m_Reader_takesAsk.2.1 12 = .ok (.iconst 4, 1) := by decide +kernel
theorem d_Reader_takesAsk_13 : decode m_Reader_takesAsk.2.1 13 = .ok (.if_icmp .lt 5, 3) := by decide +kernel
theorem d_Reader_takesAsk_16 : decode m_Reader_takesAsk.2.1 16 = .ok (.iconst 0, 1) := by decide +kernel
theorem d_Reader_takesAsk_17 : decode m_Reader_takesAsk.2.1 17 = .ok (.ireturn, 1) := by decide +kernel
theorem d_Reader_takesAsk_18 : decode m_Reader_takesAsk.2.1 18 = .ok (.aload_n 0, 1) := by decide +kernel
theorem d_Reader_takesAsk_19 : decode m_Reader_takesAsk.2.1 19 = .ok (.getfield 12, 3) := by decide +kernel
theorem d_Reader_takesAsk_22 : decode m_Reader_takesAsk.2.1 22 = .ok (.getfield 83, 3) := by decide +kernel
theorem d_Reader_takesAsk_25 : decode m_Reader_takesAsk.2.1 25 = .ok (.iload_n 1, 1) := by decide +kernel
theorem d_Reader_takesAsk_26 : decode m_Reader_takesAsk.2.1 26 = .ok (.iconst 1, 1) := by decide +kernel
theorem d_Reader_takesAsk_27 : decode m_Reader_takesAsk.2.1 27 = .ok (.iastore, 1) := by decide +kernel
theorem d_Reader_takesAsk_28 : decode m_Reader_takesAsk.2.1 28 = .ok (.aload_n 0, 1) := by decide +kernel
theorem d_Reader_takesAsk_29 : decode m_Reader_takesAsk.2.1 29 = .ok (.dup, 1) := by decide +kernel
theorem d_Reader_takesAsk_30 : decode m_Reader_takesAsk.2.1 30 = .ok (.getfield 29, 3) := by decide +kernel
theorem d_Reader_takesAsk_33 : decode m_Reader_takesAsk.2.1 33 = .ok (.iconst 1, 1) := by decide +kernel
theorem d_Reader_takesAsk_34 : decode m_Reader_takesAsk.2.1 34 = .ok (.iadd, 1) := by decide +kernel
theorem d_Reader_takesAsk_35 : decode m_Reader_takesAsk.2.1 35 = .ok (.putfield 29, 3) := by decide +kernel
theorem d_Reader_takesAsk_38 : decode m_Reader_takesAsk.2.1 38 = .ok (.aload_n 0, 1) := by decide +kernel
theorem d_Reader_takesAsk_39 : decode m_Reader_takesAsk.2.1 39 = .ok (.iconst 4, 1) := by decide +kernel
theorem d_Reader_takesAsk_40 : decode m_Reader_takesAsk.2.1 40 = .ok (.putfield 26, 3) := by decide +kernel
theorem d_Reader_takesAsk_43 : decode m_Reader_takesAsk.2.1 43 = .ok (.iconst 1, 1) := by decide +kernel
theorem d_Reader_takesAsk_44 : decode m_Reader_takesAsk.2.1 44 = .ok (.ireturn, 1) := by decide +kernel
theorem d_Reader_takesEnd_0 : decode m_Reader_takesEnd.2.1 0 = .ok (.aload_n 0, 1) := by decide +kernel
theorem d_Reader_takesEnd_1 : decode m_Reader_takesEnd.2.1 1 = .ok (.getfield 12, 3) := by decide +kernel
theorem d_Reader_takesEnd_4 : decode m_Reader_takesEnd.2.1 4 = .ok (.getfield 71, 3) := by decide +kernel
theorem d_Reader_takesEnd_7 : decode m_Reader_takesEnd.2.1 7 = .ok (.iload_n 1, 1) := by decide +kernel
theorem d_Reader_takesEnd_8 : decode m_Reader_takesEnd.2.1 8 = .ok (.iaload, 1) := by decide +kernel
theorem d_Reader_takesEnd_9 : decode m_Reader_takesEnd.2.1 9 = .ok (.ifCond .ne 17, 3) := by decide +kernel
theorem d_Reader_takesEnd_12 : decode m_Reader_takesEnd.2.1 12 = .ok (.aload_n 0, 1) := by decide +kernel
theorem d_Reader_takesEnd_13 : decode m_Reader_takesEnd.2.1 13 = .ok (.getfield 12, 3) := by decide +kernel
theorem d_Reader_takesEnd_16 : decode m_Reader_takesEnd.2.1 16 = .ok (.getfield 83, 3) := by decide +kernel
theorem d_Reader_takesEnd_19 : decode m_Reader_takesEnd.2.1 19 = .ok (.iload_n 1, 1) := by decide +kernel
theorem d_Reader_takesEnd_20 : decode m_Reader_takesEnd.2.1 20 = .ok (.iaload, 1) := by decide +kernel
theorem d_Reader_takesEnd_21 : decode m_Reader_takesEnd.2.1 21 = .ok (.ifCond .ne 5, 3) := by decide +kernel
theorem d_Reader_takesEnd_24 : decode m_Reader_takesEnd.2.1 24 = .ok (.iconst 0, 1) := by decide +kernel
theorem d_Reader_takesEnd_25 : decode m_Reader_takesEnd.2.1 25 = .ok (.ireturn, 1) := by decide +kernel
theorem d_Reader_takesEnd_26 : decode m_Reader_takesEnd.2.1 26 = .ok (.aload_n 0, 1) := by decide +kernel
theorem d_Reader_takesEnd_27 : decode m_Reader_takesEnd.2.1 27 = .ok (.getfield 12, 3) := by decide +kernel
theorem d_Reader_takesEnd_30 : decode m_Reader_takesEnd.2.1 30 = .ok (.iload_n 1, 1) := by decide +kernel
theorem d_Reader_takesEnd_31 : decode m_Reader_takesEnd.2.1 31 = .ok (.iconst 1, 1) := by decide +kernel
theorem d_Reader_takesEnd_32 : decode m_Reader_takesEnd.2.1 32 = .ok (.iadd, 1) := by decide +kernel
theorem d_Reader_takesEnd_33 : decode m_Reader_takesEnd.2.1 33 = .ok (.putfield 18, 3) := by decide +kernel
theorem d_Reader_takesEnd_36 : decode m_Reader_takesEnd.2.1 36 = .ok (.iload_n 1, 1) := by decide +kernel
theorem d_Reader_takesEnd_37 : decode m_Reader_takesEnd.2.1 37 = .ok (.iconst 1, 1) := by decide +kernel
theorem d_Reader_takesEnd_38 : decode m_Reader_takesEnd.2.1 38 = .ok (.iadd, 1) := by decide +kernel
theorem d_Reader_takesEnd_39 : decode m_Reader_takesEnd.2.1 39 = .ok (.bipush 10, 2) := by decide +kernel
theorem d_Reader_takesEnd_41 : decode m_Reader_takesEnd.2.1 41 = .ok (.if_icmp .ge 13, 3) := by decide +kernel
theorem d_Reader_takesEnd_44 : decode m_Reader_takesEnd.2.1 44 = .ok (.aload_n 0, 1) := by decide +kernel
theorem d_Reader_takesEnd_45 : decode m_Reader_takesEnd.2.1 45 = .ok (.getfield 12, 3) := by decide +kernel
theorem d_Reader_takesEnd_48 : decode m_Reader_takesEnd.2.1 48 = .ok (.iload_n 1, 1) := by decide +kernel
theorem d_Reader_takesEnd_49 : decode m_Reader_takesEnd.2.1 49 = .ok (.iconst 1, 1) := by decide +kernel
theorem d_Reader_takesEnd_50 : decode m_Reader_takesEnd.2.1 50 = .ok (.iadd, 1) := by decide +kernel
theorem d_Reader_takesEnd_51 : decode m_Reader_takesEnd.2.1 51 = .ok (.invokevirtual 22, 3) := by decide +kernel
theorem d_Reader_takesEnd_54 : decode m_Reader_takesEnd.2.1 54 = .ok (.aload_n 0, 1) := by decide +kernel
theorem d_Reader_takesEnd_55 : decode m_Reader_takesEnd.2.1 55 = .ok (.iconst 0, 1) := by decide +kernel
theorem d_Reader_takesEnd_56 : decode m_Reader_takesEnd.2.1 56 = .ok (.putfield 26, 3) := by decide +kernel
theorem d_Reader_takesEnd_59 : decode m_Reader_takesEnd.2.1 59 = .ok (.iconst 1, 1) := by decide +kernel
theorem d_Reader_takesEnd_60 : decode m_Reader_takesEnd.2.1 60 = .ok (.ireturn, 1) := by decide +kernel
theorem d_Reader_takesFrom_0 : decode m_Reader_takesFrom.2.1 0 = .ok (.aload_n 0, 1) := by decide +kernel
theorem d_Reader_takesFrom_1 : decode m_Reader_takesFrom.2.1 1 = .ok (.getfield 26, 3) := by decide +kernel
theorem d_Reader_takesFrom_4 : decode m_Reader_takesFrom.2.1 4 = .ok (.iconst 1, 1) := by decide +kernel
theorem d_Reader_takesFrom_5 : decode m_Reader_takesFrom.2.1 5 = .ok (.if_icmp .le 5, 3) := by decide +kernel
theorem d_Reader_takesFrom_8 : decode m_Reader_takesFrom.2.1 8 = .ok (.iconst 0, 1) := by decide +kernel
theorem d_Reader_takesFrom_9 : decode m_Reader_takesFrom.2.1 9 = .ok (.ireturn, 1) := by decide +kernel
theorem d_Reader_takesFrom_10 : decode m_Reader_takesFrom.2.1 10 = .ok (.aload_n 0, 1) := by decide +kernel
theorem d_Reader_takesFrom_11 : decode m_Reader_takesFrom.2.1 11 = .ok (.getfield 12, 3) := by decide +kernel
theorem d_Reader_takesFrom_14 : decode m_Reader_takesFrom.2.1 14 = .ok (.getfield 62, 3) := by decide +kernel
theorem d_Reader_takesFrom_17 : decode m_Reader_takesFrom.2.1 17 = .ok (.iload_n 1, 1) := by decide +kernel
theorem d_Reader_takesFrom_18 : decode m_Reader_takesFrom.2.1 18 = .ok (.iaload, 1) := by decide +kernel
theorem d_Reader_takesFrom_19 : decode m_Reader_takesFrom.2.1 19 = .ok (.bipush (-6), 2) := by decide +kernel
theorem d_Reader_takesFrom_21 : decode m_Reader_takesFrom.2.1 21 = .ok (.if_icmp .ne 16, 3) := by decide +kernel
theorem d_Reader_takesFrom_24 : decode m_Reader_takesFrom.2.1 24 = .ok (.aload_n 0, 1) := by decide +kernel
theorem d_Reader_takesFrom_25 : decode m_Reader_takesFrom.2.1 25 = .ok (.getfield 12, 3) := by decide +kernel
theorem d_Reader_takesFrom_28 : decode m_Reader_takesFrom.2.1 28 = .ok (.getfield 62, 3) := by decide +kernel
theorem d_Reader_takesFrom_31 : decode m_Reader_takesFrom.2.1 31 = .ok (.iload_n 1, 1) := by decide +kernel
theorem d_Reader_takesFrom_32 : decode m_Reader_takesFrom.2.1 32 = .ok (.iload_n 2, 1) := by decide +kernel
theorem d_Reader_takesFrom_33 : decode m_Reader_takesFrom.2.1 33 = .ok (.iastore, 1) := by decide +kernel
theorem d_Reader_takesFrom_34 : decode m_Reader_takesFrom.2.1 34 = .ok (.goto 45, 3) := by decide +kernel
theorem d_Reader_takesFrom_37 : decode m_Reader_takesFrom.2.1 37 = .ok (.aload_n 0, 1) := by decide +kernel
theorem d_Reader_takesFrom_38 : decode m_Reader_takesFrom.2.1 38 = .ok (.getfield 12, 3) := by decide +kernel
theorem d_Reader_takesFrom_41 : decode m_Reader_takesFrom.2.1 41 = .ok (.getfield 65, 3) := by decide +kernel
theorem d_Reader_takesFrom_44 : decode m_Reader_takesFrom.2.1 44 = .ok (.iload_n 1, 1) := by decide +kernel
theorem d_Reader_takesFrom_45 : decode m_Reader_takesFrom.2.1 45 = .ok (.iaload, 1) := by decide +kernel
theorem d_Reader_takesFrom_46 : decode m_Reader_takesFrom.2.1 46 = .ok (.bipush (-6), 2) := by decide +kernel
theorem d_Reader_takesFrom_48 : decode m_Reader_takesFrom.2.1 48 = .ok (.if_icmp .ne 29, 3) := by decide +kernel
theorem d_Reader_takesFrom_51 : decode m_Reader_takesFrom.2.1 51 = .ok (.iload_n 2, 1) := by decide +kernel
theorem d_Reader_takesFrom_52 : decode m_Reader_takesFrom.2.1 52 = .ok (.aload_n 0, 1) := by decide +kernel
theorem d_Reader_takesFrom_53 : decode m_Reader_takesFrom.2.1 53 = .ok (.getfield 12, 3) := by decide +kernel
theorem d_Reader_takesFrom_56 : decode m_Reader_takesFrom.2.1 56 = .ok (.getfield 62, 3) := by decide +kernel
theorem d_Reader_takesFrom_59 : decode m_Reader_takesFrom.2.1 59 = .ok (.iload_n 1, 1) := by decide +kernel
theorem d_Reader_takesFrom_60 : decode m_Reader_takesFrom.2.1 60 = .ok (.iaload, 1) := by decide +kernel
theorem d_Reader_takesFrom_61 : decode m_Reader_takesFrom.2.1 61 = .ok (.if_icmp .le 16, 3) := by decide +kernel
theorem d_Reader_takesFrom_64 : decode m_Reader_takesFrom.2.1 64 = .ok (.aload_n 0, 1) := by decide +kernel
theorem d_Reader_takesFrom_65 : decode m_Reader_takesFrom.2.1 65 = .ok (.getfield 12, 3) := by decide +kernel
theorem d_Reader_takesFrom_68 : decode m_Reader_takesFrom.2.1 68 = .ok (.getfield 65, 3) := by decide +kernel
theorem d_Reader_takesFrom_71 : decode m_Reader_takesFrom.2.1 71 = .ok (.iload_n 1, 1) := by decide +kernel
theorem d_Reader_takesFrom_72 : decode m_Reader_takesFrom.2.1 72 = .ok (.iload_n 2, 1) := by decide +kernel
theorem d_Reader_takesFrom_73 : decode m_Reader_takesFrom.2.1 73 = .ok (.iastore, 1) := by decide +kernel
theorem d_Reader_takesFrom_74 : decode m_Reader_takesFrom.2.1 74 = .ok (.goto 5, 3) := by decide +kernel
theorem d_Reader_takesFrom_77 : decode m_Reader_takesFrom.2.1 77 = .ok (.iconst 0, 1) := by decide +kernel
theorem d_Reader_takesFrom_78 : decode m_Reader_takesFrom.2.1 78 = .ok (.ireturn, 1) := by decide +kernel
theorem d_Reader_takesFrom_79 : decode m_Reader_takesFrom.2.1 79 = .ok (.aload_n 0, 1) := by decide +kernel
theorem d_Reader_takesFrom_80 : decode m_Reader_takesFrom.2.1 80 = .ok (.iconst 1, 1) := by decide +kernel
theorem d_Reader_takesFrom_81 : decode m_Reader_takesFrom.2.1 81 = .ok (.putfield 26, 3) := by decide +kernel
theorem d_Reader_takesFrom_84 : decode m_Reader_takesFrom.2.1 84 = .ok (.iconst 1, 1) := by decide +kernel
theorem d_Reader_takesFrom_85 : decode m_Reader_takesFrom.2.1 85 = .ok (.ireturn, 1) := by decide +kernel
theorem d_Reader_takesMan_0 : decode m_Reader_takesMan.2.1 0 = .ok (.aload_n 0, 1) := by decide +kernel
theorem d_Reader_takesMan_1 : decode m_Reader_takesMan.2.1 1 = .ok (.getfield 12, 3) := by decide +kernel
theorem d_Reader_takesMan_4 : decode m_Reader_takesMan.2.1 4 = .ok (.getfield 71, 3) := by decide +kernel
theorem d_Reader_takesMan_7 : decode m_Reader_takesMan.2.1 7 = .ok (.iload_n 1, 1) := by decide +kernel
theorem d_Reader_takesMan_8 : decode m_Reader_takesMan.2.1 8 = .ok (.iaload, 1) := by decide +kernel
theorem d_Reader_takesMan_9 : decode m_Reader_takesMan.2.1 9 = .ok (.iload_n 2, 1) := by decide +kernel
theorem d_Reader_takesMan_10 : decode m_Reader_takesMan.2.1 10 = .ok (.ishr, 1) := by decide +kernel
theorem d_Reader_takesMan_11 : decode m_Reader_takesMan.2.1 11 = .ok (.ifCond .ne 7, 3) := by decide +kernel
theorem d_Reader_takesMan_14 : decode m_Reader_takesMan.2.1 14 = .ok (.iconst 1, 1) := by decide +kernel
theorem d_Reader_takesMan_15 : decode m_Reader_takesMan.2.1 15 = .ok (.goto 4, 3) := by decide +kernel
theorem d_Reader_takesMan_18 : decode m_Reader_takesMan.2.1 18 = .ok (.iconst 0, 1) := by decide +kernel
theorem d_Reader_takesMan_19 : decode m_Reader_takesMan.2.1 19 = .ok (.istore_n 3, 1) := by decide +kernel
theorem d_Reader_takesMan_20 : decode m_Reader_takesMan.2.1 20 = .ok (.aload_n 0, 1) := by decide +kernel
theorem d_Reader_takesMan_21 : decode m_Reader_takesMan.2.1 21 = .ok (.iload_n 1, 1) := by decide +kernel
theorem d_Reader_takesMan_22 : decode m_Reader_takesMan.2.1 22 = .ok (.invokevirtual 80, 3) := by decide +kernel
theorem d_Reader_takesMan_25 : decode m_Reader_takesMan.2.1 25 = .ok (.ifCond .eq 7, 3) := by decide +kernel
theorem d_Reader_takesMan_28 : decode m_Reader_takesMan.2.1 28 = .ok (.iload_n 3, 1) := by decide +kernel
theorem d_Reader_takesMan_29 : decode m_Reader_takesMan.2.1 29 = .ok (.ifCond .ne 5, 3) := by decide +kernel
theorem d_Reader_takesMan_32 : decode m_Reader_takesMan.2.1 32 = .ok (.iconst 0, 1) := by decide +kernel
theorem d_Reader_takesMan_33 : decode m_Reader_takesMan.2.1 33 = .ok (.ireturn, 1) := by decide +kernel
theorem d_Reader_takesMan_34 : decode m_Reader_takesMan.2.1 34 = .ok (.aload_n 0, 1) := by decide +kernel
theorem d_Reader_takesMan_35 : decode m_Reader_takesMan.2.1 35 = .ok (.getfield 12, 3) := by decide +kernel
theorem d_Reader_takesMan_38 : decode m_Reader_takesMan.2.1 38 = .ok (.getfield 71, 3) := by decide +kernel
theorem d_Reader_takesMan_41 : decode m_Reader_takesMan.2.1 41 = .ok (.iload_n 1, 1) := by decide +kernel
theorem d_Reader_takesMan_42 : decode m_Reader_takesMan.2.1 42 = .ok (.dup2, 1) := by decide +kernel
theorem d_Reader_takesMan_43 : decode m_Reader_takesMan.2.1 43 = .ok (.iaload, 1) := by decide +kernel
theorem d_Reader_takesMan_44 : decode m_Reader_takesMan.2.1 44 = .ok (.iconst 1, 1) := by decide +kernel
theorem d_Reader_takesMan_45 : decode m_Reader_takesMan.2.1 45 = .ok (.iload_n 2, 1) := by decide +kernel
theorem d_Reader_takesMan_46 : decode m_Reader_takesMan.2.1 46 = .ok (.ishl, 1) := by decide +kernel
theorem d_Reader_takesMan_47 : decode m_Reader_takesMan.2.1 47 = .ok (.ior, 1) := by decide +kernel
theorem d_Reader_takesMan_48 : decode m_Reader_takesMan.2.1 48 = .ok (.iastore, 1) := by decide +kernel
theorem d_Reader_takesMan_49 : decode m_Reader_takesMan.2.1 49 = .ok (.aload_n 0, 1) := by decide +kernel
theorem d_Reader_takesMan_50 : decode m_Reader_takesMan.2.1 50 = .ok (.iconst 3, 1) := by decide +kernel
theorem d_Reader_takesMan_51 : decode m_Reader_takesMan.2.1 51 = .ok (.putfield 26, 3) := by decide +kernel
theorem d_Reader_takesMan_54 : decode m_Reader_takesMan.2.1 54 = .ok (.iconst 1, 1) := by decide +kernel
theorem d_Reader_takesMan_55 : decode m_Reader_takesMan.2.1 55 = .ok (.ireturn, 1) := by decide +kernel
theorem d_Reader_takesPlus_0 : decode m_Reader_takesPlus.2.1 0 = .ok (.aload_n 0, 1) := by decide +kernel
theorem d_Reader_takesPlus_1 : decode m_Reader_takesPlus.2.1 1 = .ok (.getfield 26, 3) := by decide +kernel
theorem d_Reader_takesPlus_4 : decode m_Reader_takesPlus.2.1 4 = .ok (.iconst 1, 1) := by decide +kernel
theorem d_Reader_takesPlus_5 : decode m_Reader_takesPlus.2.1 5 = .ok (.if_icmp .gt 7, 3) := by decide +kernel
theorem d_Reader_takesPlus_8 : decode m_Reader_takesPlus.2.1 8 = .ok (.iload_n 1, 1) := by decide +kernel
theorem d_Reader_takesPlus_9 : decode m_Reader_takesPlus.2.1 9 = .ok (.ifCond .ne 5, 3) := by decide +kernel
theorem d_Reader_takesPlus_12 : decode m_Reader_takesPlus.2.1 12 = .ok (.iconst 0, 1) := by decide +kernel
theorem d_Reader_takesPlus_13 : decode m_Reader_takesPlus.2.1 13 = .ok (.ireturn, 1) := by decide +kernel
theorem d_Reader_takesPlus_14 : decode m_Reader_takesPlus.2.1 14 = .ok (.aload_n 0, 1) := by decide +kernel
theorem d_Reader_takesPlus_15 : decode m_Reader_takesPlus.2.1 15 = .ok (.iconst 2, 1) := by decide +kernel
theorem d_Reader_takesPlus_16 : decode m_Reader_takesPlus.2.1 16 = .ok (.putfield 26, 3) := by decide +kernel
theorem d_Reader_takesPlus_19 : decode m_Reader_takesPlus.2.1 19 = .ok (.iconst 1, 1) := by decide +kernel
theorem d_Reader_takesPlus_20 : decode m_Reader_takesPlus.2.1 20 = .ok (.ireturn, 1) := by decide +kernel
theorem d_Reader_takesTool_0 : decode m_Reader_takesTool.2.1 0 = .ok (.aload_n 0, 1) := by decide +kernel
theorem d_Reader_takesTool_1 : decode m_Reader_takesTool.2.1 1 = .ok (.getfield 12, 3) := by decide +kernel
theorem d_Reader_takesTool_4 : decode m_Reader_takesTool.2.1 4 = .ok (.getfield 68, 3) := by decide +kernel
theorem d_Reader_takesTool_7 : decode m_Reader_takesTool.2.1 7 = .ok (.iload_n 1, 1) := by decide +kernel
theorem d_Reader_takesTool_8 : decode m_Reader_takesTool.2.1 8 = .ok (.iload_n 2, 1) := by decide +kernel
theorem d_Reader_takesTool_9 : decode m_Reader_takesTool.2.1 9 = .ok (.iastore, 1) := by decide +kernel
theorem d_Reader_takesTool_10 : decode m_Reader_takesTool.2.1 10 = .ok (.aload_n 0, 1) := by decide +kernel
theorem d_Reader_takesTool_11 : decode m_Reader_takesTool.2.1 11 = .ok (.iconst 3, 1) := by decide +kernel
theorem d_Reader_takesTool_12 : decode m_Reader_takesTool.2.1 12 = .ok (.putfield 26, 3) := by decide +kernel
theorem d_Reader_takesTool_15 : decode m_Reader_takesTool.2.1 15 = .ok (.iconst 1, 1) := by decide +kernel
theorem d_Reader_takesTool_16 : decode m_Reader_takesTool.2.1 16 = .ok (.ireturn, 1) := by decide +kernel
theorem d_Shares_holders_0 : decode m_Shares_holders.2.1 0 = .ok (.iconst 0, 1) := by decide +kernel
theorem d_Shares_holders_1 : decode m_Shares_holders.2.1 1 = .ok (.istore 4, 2) := by decide +kernel
theorem d_Shares_holders_3 : decode m_Shares_holders.2.1 3 = .ok (.iconst 0, 1) := by decide +kernel
theorem d_Shares_holders_4 : decode m_Shares_holders.2.1 4 = .ok (.istore 5, 2) := by decide +kernel
theorem d_Shares_holders_6 : decode m_Shares_holders.2.1 6 = .ok (.iload 5, 2) := by decide +kernel
theorem d_Shares_holders_8 : decode m_Shares_holders.2.1 8 = .ok (.bipush 6, 2) := by decide +kernel
theorem d_Shares_holders_10 : decode m_Shares_holders.2.1 10 = .ok (.if_icmp .ge 46, 3) := by decide +kernel
theorem d_Shares_holders_13 : decode m_Shares_holders.2.1 13 = .ok (.aload_n 0, 1) := by decide +kernel
theorem d_Shares_holders_14 : decode m_Shares_holders.2.1 14 = .ok (.aload_n 1, 1) := by decide +kernel
theorem d_Shares_holders_15 : decode m_Shares_holders.2.1 15 = .ok (.iload_n 2, 1) := by decide +kernel
theorem d_Shares_holders_16 : decode m_Shares_holders.2.1 16 = .ok (.iload 5, 2) := by decide +kernel
theorem d_Shares_holders_18 : decode m_Shares_holders.2.1 18 = .ok (.invokevirtual 43, 3) := by decide +kernel
theorem d_Shares_holders_21 : decode m_Shares_holders.2.1 21 = .ok (.istore 6, 2) := by decide +kernel
theorem d_Shares_holders_23 : decode m_Shares_holders.2.1 23 = .ok (.iload 6, 2) := by decide +kernel
theorem d_Shares_holders_25 : decode m_Shares_holders.2.1 25 = .ok (.ifCond .le 25, 3) := by decide +kernel
theorem d_Shares_holders_28 : decode m_Shares_holders.2.1 28 = .ok (.iload 6, 2) := by decide +kernel
theorem d_Shares_holders_30 : decode m_Shares_holders.2.1 30 = .ok (.bipush 10, 2) := by decide +kernel
theorem d_Shares_holders_32 : decode m_Shares_holders.2.1 32 = .ok (.imul, 1) := by decide +kernel
theorem d_Shares_holders_33 : decode m_Shares_holders.2.1 33 = .ok (.iload_n 3, 1) := by decide +kernel
theorem d_Shares_holders_34 : decode m_Shares_holders.2.1 34 = .ok (.sipush 6144, 3) := by decide +kernel
theorem d_Shares_holders_37 : decode m_Shares_holders.2.1 37 = .ok (.imul, 1) := by decide +kernel
theorem d_Shares_holders_38 : decode m_Shares_holders.2.1 38 = .ok (.if_icmp .lt 12, 3) := by decide +kernel
theorem d_Shares_holders_41 : decode m_Shares_holders.2.1 41 = .ok (.iload 4, 2) := by decide +kernel
theorem d_Shares_holders_43 : decode m_Shares_holders.2.1 43 = .ok (.iconst 1, 1) := by decide +kernel
theorem d_Shares_holders_44 : decode m_Shares_holders.2.1 44 = .ok (.iload 5, 2) := by decide +kernel
theorem d_Shares_holders_46 : decode m_Shares_holders.2.1 46 = .ok (.ishl, 1) := by decide +kernel
theorem d_Shares_holders_47 : decode m_Shares_holders.2.1 47 = .ok (.ior, 1) := by decide +kernel
theorem d_Shares_holders_48 : decode m_Shares_holders.2.1 48 = .ok (.istore 4, 2) := by decide +kernel
theorem d_Shares_holders_50 : decode m_Shares_holders.2.1 50 = .ok (.iinc 5 1, 3) := by decide +kernel
theorem d_Shares_holders_53 : decode m_Shares_holders.2.1 53 = .ok (.goto (-47), 3) := by decide +kernel
theorem d_Shares_holders_56 : decode m_Shares_holders.2.1 56 = .ok (.iload 4, 2) := by decide +kernel
theorem d_Shares_holders_58 : decode m_Shares_holders.2.1 58 = .ok (.ireturn, 1) := by decide +kernel
theorem d_Shares_init_0 : decode m_Shares_init.2.1 0 = .ok (.aload_n 0, 1) := by decide +kernel
theorem d_Shares_init_1 : decode m_Shares_init.2.1 1 = .ok (.invokespecial 3, 3) := by decide +kernel
theorem d_Shares_init_4 : decode m_Shares_init.2.1 4 = .ok (.aload_n 0, 1) := by decide +kernel
theorem d_Shares_init_5 : decode m_Shares_init.2.1 5 = .ok (.bipush 10, 2) := by decide +kernel
theorem d_Shares_init_7 : decode m_Shares_init.2.1 7 = .ok (.newarray .int, 2) := by decide +kernel
theorem d_Shares_init_9 : decode m_Shares_init.2.1 9 = .ok (.putfield 9, 3) := by decide +kernel
theorem d_Shares_init_12 : decode m_Shares_init.2.1 12 = .ok (.return_, 1) := by decide +kernel
theorem d_Shares_isAhead_0 : decode m_Shares_isAhead.2.1 0 = .ok (.iload_n 0, 1) := by decide +kernel
theorem d_Shares_isAhead_1 : decode m_Shares_isAhead.2.1 1 = .ok (.ifCond .lt 12, 3) := by decide +kernel
theorem d_Shares_isAhead_4 : decode m_Shares_isAhead.2.1 4 = .ok (.iload_n 0, 1) := by decide +kernel
theorem d_Shares_isAhead_5 : decode m_Shares_isAhead.2.1 5 = .ok (.iload_n 1, 1) := by decide +kernel
theorem d_Shares_isAhead_6 : decode m_Shares_isAhead.2.1 6 = .ok (.if_icmp .ge 7, 3) := by decide +kernel
theorem d_Shares_isAhead_9 : decode m_Shares_isAhead.2.1 9 = .ok (.iconst 1, 1) := by decide +kernel
theorem d_Shares_isAhead_10 : decode m_Shares_isAhead.2.1 10 = .ok (.goto 4, 3) := by decide +kernel
theorem d_Shares_isAhead_13 : decode m_Shares_isAhead.2.1 13 = .ok (.iconst 0, 1) := by decide +kernel
theorem d_Shares_isAhead_14 : decode m_Shares_isAhead.2.1 14 = .ok (.ireturn, 1) := by decide +kernel
theorem d_Shares_lowest_0 : decode m_Shares_lowest.2.1 0 = .ok (.iload_n 1, 1) := by decide +kernel
theorem d_Shares_lowest_1 : decode m_Shares_lowest.2.1 1 = .ok (.istore_n 3, 1) := by decide +kernel
theorem d_Shares_lowest_2 : decode m_Shares_lowest.2.1 2 = .ok (.iload_n 0, 1) := by decide +kernel
theorem d_Shares_lowest_3 : decode m_Shares_lowest.2.1 3 = .ok (.istore 4, 2) := by decide +kernel
theorem d_Shares_lowest_5 : decode m_Shares_lowest.2.1 5 = .ok (.iconst 0, 1) := by decide +kernel
theorem d_Shares_lowest_6 : decode m_Shares_lowest.2.1 6 = .ok (.istore 5, 2) := by decide +kernel
theorem d_Shares_lowest_8 : decode m_Shares_lowest.2.1 8 = .ok (.iload 5, 2) := by decide +kernel
theorem d_Shares_lowest_10 : decode m_Shares_lowest.2.1 10 = .ok (.bipush 64, 2) := by decide +kernel
theorem d_Shares_lowest_12 : decode m_Shares_lowest.2.1 12 = .ok (.if_icmp .ge 27, 3) := by decide +kernel
theorem d_Shares_lowest_15 : decode m_Shares_lowest.2.1 15 = .ok (.iload 4, 2) := by decide +kernel
theorem d_Shares_lowest_17 : decode m_Shares_lowest.2.1 17 = .ok (.ifCond .eq 22, 3) := by decide +kernel
theorem d_Shares_lowest_20 : decode m_Shares_lowest.2.1 20 = .ok (.iload_n 3, 1) := by decide +kernel
theorem d_Shares_lowest_21 : decode m_Shares_lowest.2.1 21 = .ok (.iload 4, 2) := by decide +kernel
theorem d_Shares_lowest_23 : decode m_Shares_lowest.2.1 23 = .ok (.irem, 1) := by decide +kernel
theorem d_Shares_lowest_24 : decode m_Shares_lowest.2.1 24 = .ok (.istore 6, 2) := by decide +kernel
theorem d_Shares_lowest_26 : decode m_Shares_lowest.2.1 26 = .ok (.iload 4, 2) := by decide +kernel
theorem d_Shares_lowest_28 : decode m_Shares_lowest.2.1 28 = .ok (.istore_n 3, 1) := by decide +kernel
theorem d_Shares_lowest_29 : decode m_Shares_lowest.2.1 29 = .ok (.iload 6, 2) := by decide +kernel
theorem d_Shares_lowest_31 : decode m_Shares_lowest.2.1 31 = .ok (.istore 4, 2) := by decide +kernel
theorem d_Shares_lowest_33 : decode m_Shares_lowest.2.1 33 = .ok (.iinc 5 1, 3) := by decide +kernel
theorem d_Shares_lowest_36 : decode m_Shares_lowest.2.1 36 = .ok (.goto (-28), 3) := by decide +kernel
theorem d_Shares_lowest_39 : decode m_Shares_lowest.2.1 39 = .ok (.iload_n 3, 1) := by decide +kernel
theorem d_Shares_lowest_40 : decode m_Shares_lowest.2.1 40 = .ok (.ifCond .ne 5, 3) := by decide +kernel
theorem d_Shares_lowest_43 : decode m_Shares_lowest.2.1 43 = .ok (.iconst 0, 1) := by decide +kernel
theorem d_Shares_lowest_44 : decode m_Shares_lowest.2.1 44 = .ok (.ireturn, 1) := by decide +kernel
theorem d_Shares_lowest_45 : decode m_Shares_lowest.2.1 45 = .ok (.iload_n 2, 1) := by decide +kernel
theorem d_Shares_lowest_46 : decode m_Shares_lowest.2.1 46 = .ok (.ifCond .ne 7, 3) := by decide +kernel
theorem d_Shares_lowest_49 : decode m_Shares_lowest.2.1 49 = .ok (.iload_n 0, 1) := by decide +kernel
theorem d_Shares_lowest_50 : decode m_Shares_lowest.2.1 50 = .ok (.goto 4, 3) := by decide +kernel
theorem d_Shares_lowest_53 : decode m_Shares_lowest.2.1 53 = .ok (.iload_n 1, 1) := by decide +kernel
theorem d_Shares_lowest_54 : decode m_Shares_lowest.2.1 54 = .ok (.iload_n 3, 1) := by decide +kernel
theorem d_Shares_lowest_55 : decode m_Shares_lowest.2.1 55 = .ok (.idiv, 1) := by decide +kernel
theorem d_Shares_lowest_56 : decode m_Shares_lowest.2.1 56 = .ok (.ireturn, 1) := by decide +kernel
theorem d_Shares_partsOf_0 : decode m_Shares_partsOf.2.1 0 = .ok (.iconst 0, 1) := by decide +kernel
theorem d_Shares_partsOf_1 : decode m_Shares_partsOf.2.1 1 = .ok (.istore 4, 2) := by decide +kernel
theorem d_Shares_partsOf_3 : decode m_Shares_partsOf.2.1 3 = .ok (.iload 4, 2) := by decide +kernel
theorem d_Shares_partsOf_5 : decode m_Shares_partsOf.2.1 5 = .ok (.iload_n 2, 1) := by decide +kernel
theorem d_Shares_partsOf_6 : decode m_Shares_partsOf.2.1 6 = .ok (.if_icmp .gt 116, 3) := by decide +kernel
theorem d_Shares_partsOf_9 : decode m_Shares_partsOf.2.1 9 = .ok (.iload 4, 2) := by decide +kernel
theorem d_Shares_partsOf_11 : decode m_Shares_partsOf.2.1 11 = .ok (.bipush 10, 2) := by decide +kernel
theorem d_Shares_partsOf_13 : decode m_Shares_partsOf.2.1 13 = .ok (.if_icmp .ge 109, 3) := by decide +kernel
theorem d_Shares_partsOf_16 : decode m_Shares_partsOf.2.1 16 = .ok (.aload_n 1, 1) := by decide +kernel
theorem d_Shares_partsOf_17 : decode m_Shares_partsOf.2.1 17 = .ok (.getfield 15, 3) := by decide +kernel
theorem d_Shares_partsOf_20 : decode m_Shares_partsOf.2.1 20 = .ok (.iload 4, 2) := by decide +kernel
theorem d_Shares_partsOf_22 : decode m_Shares_partsOf.2.1 22 = .ok (.iaload, 1) := by decide +kernel
theorem d_Shares_partsOf_23 : decode m_Shares_partsOf.2.1 23 = .ok (.istore 5, 2) := by decide +kernel
theorem d_Shares_partsOf_25 : decode m_Shares_partsOf.2.1 25 = .ok (.aload_n 1, 1) := by decide +kernel
theorem d_Shares_partsOf_26 : decode m_Shares_partsOf.2.1 26 = .ok (.getfield 20, 3) := by decide +kernel
theorem d_Shares_partsOf_29 : decode m_Shares_partsOf.2.1 29 = .ok (.iload 4, 2) := by decide +kernel
theorem d_Shares_partsOf_31 : decode m_Shares_partsOf.2.1 31 = .ok (.iaload, 1) := by decide +kernel
theorem d_Shares_partsOf_32 : decode m_Shares_partsOf.2.1 32 = .ok (.istore 6, 2) := by decide +kernel
theorem d_Shares_partsOf_34 : decode m_Shares_partsOf.2.1 34 = .ok (.iload 5, 2) := by decide +kernel
theorem d_Shares_partsOf_36 : decode m_Shares_partsOf.2.1 36 = .ok (.iload 4, 2) := by decide +kernel
theorem d_Shares_partsOf_38 : decode m_Shares_partsOf.2.1 38 = .ok (.invokestatic 23, 3) := by decide +kernel
theorem d_Shares_partsOf_41 : decode m_Shares_partsOf.2.1 41 = .ok (.ifCond .ne 24, 3) := by decide +kernel
theorem d_Shares_partsOf_44 : decode m_Shares_partsOf.2.1 44 = .ok (.aload_n 0, 1) := by decide +kernel
theorem d_Shares_partsOf_45 : decode m_Shares_partsOf.2.1 45 = .ok (.getfield 9, 3) := by decide +kernel
theorem d_Shares_partsOf_48 : decode m_Shares_partsOf.2.1 48 = .ok (.iload 4, 2) := by decide +kernel
theorem d_Shares_partsOf_50 : decode m_Shares_partsOf.2.1 50 = .ok (.aload_n 1, 1) := by decide +kernel
theorem d_Shares_partsOf_51 : decode m_Shares_partsOf.2.1 51 = .ok (.getfield 27, 3) := by decide +kernel
theorem d_Shares_partsOf_54 : decode m_Shares_partsOf.2.1 54 = .ok (.iload 4, 2) := by decide +kernel
theorem d_Shares_partsOf_56 : decode m_Shares_partsOf.2.1 56 = .ok (.iaload, 1) := by decide +kernel
theorem d_Shares_partsOf_57 : decode m_Shares_partsOf.2.1 57 = .ok (.iload_n 3, 1) := by decide +kernel
theorem d_Shares_partsOf_58 : decode m_Shares_partsOf.2.1 58 = .ok (.invokestatic 30, 3) := by decide +kernel
theorem d_Shares_partsOf_61 : decode m_Shares_partsOf.2.1 61 = .ok (.iastore, 1) := by decide +kernel
theorem d_Shares_partsOf_62 : decode m_Shares_partsOf.2.1 62 = .ok (.goto 54, 3) := by decide +kernel
theorem d_Shares_partsOf_65 : decode m_Shares_partsOf.2.1 65 = .ok (.iload 6, 2) := by decide +kernel
theorem d_Shares_partsOf_67 : decode m_Shares_partsOf.2.1 67 = .ok (.iload 4, 2) := by decide +kernel
theorem d_Shares_partsOf_69 : decode m_Shares_partsOf.2.1 69 = .ok (.invokestatic 23, 3) := by decide +kernel
theorem d_Shares_partsOf_72 : decode m_Shares_partsOf.2.1 72 = .ok (.ifCond .ne 20, 3) := by decide +kernel
theorem d_Shares_partsOf_75 : decode m_Shares_partsOf.2.1 75 = .ok (.aload_n 0, 1) := by decide +kernel
theorem d_Shares_partsOf_76 : decode m_Shares_partsOf.2.1 76 = .ok (.getfield 9, 3) := by decide +kernel
theorem d_Shares_partsOf_79 : decode m_Shares_partsOf.2.1 79 = .ok (.iload 4, 2) := by decide +kernel
theorem d_Shares_partsOf_81 : decode m_Shares_partsOf.2.1 81 = .ok (.aload_n 0, 1) := by decide +kernel
theorem d_Shares_partsOf_82 : decode m_Shares_partsOf.2.1 82 = .ok (.getfield 9, 3) := by decide +kernel
theorem d_Shares_partsOf_85 : decode m_Shares_partsOf.2.1 85 = .ok (.iload 5, 2) := by decide +kernel
theorem d_Shares_partsOf_87 : decode m_Shares_partsOf.2.1 87 = .ok (.iaload, 1) := by decide +kernel
theorem d_Shares_partsOf_88 : decode m_Shares_partsOf.2.1 88 = .ok (.iastore, 1) := by decide +kernel
theorem d_Shares_partsOf_89 : decode m_Shares_partsOf.2.1 89 = .ok (.goto 27, 3) := by decide +kernel
theorem d_Shares_partsOf_92 : decode m_Shares_partsOf.2.1 92 = .ok (.aload_n 0, 1) := by decide +kernel
theorem d_Shares_partsOf_93 : decode m_Shares_partsOf.2.1 93 = .ok (.getfield 9, 3) := by decide +kernel
theorem d_Shares_partsOf_96 : decode m_Shares_partsOf.2.1 96 = .ok (.iload 4, 2) := by decide +kernel
theorem d_Shares_partsOf_98 : decode m_Shares_partsOf.2.1 98 = .ok (.aload_n 0, 1) := by decide +kernel
theorem d_Shares_partsOf_99 : decode m_Shares_partsOf.2.1 99 = .ok (.getfield 9, 3) := by decide +kernel
theorem d_Shares_partsOf_102 : decode m_Shares_partsOf.2.1 102 = .ok (.iload 5, 2) := by decide +kernel
theorem d_Shares_partsOf_104 : decode m_Shares_partsOf.2.1 104 = .ok (.iaload, 1) := by decide +kernel
theorem d_Shares_partsOf_105 : decode m_Shares_partsOf.2.1 105 = .ok (.aload_n 0, 1) := by decide +kernel
theorem d_Shares_partsOf_106 : decode m_Shares_partsOf.2.1 106 = .ok (.getfield 9, 3) := by decide +kernel
theorem d_Shares_partsOf_109 : decode m_Shares_partsOf.2.1 109 = .ok (.iload 6, 2) := by decide +kernel
theorem d_Shares_partsOf_111 : decode m_Shares_partsOf.2.1 111 = .ok (.iaload, 1) := by decide +kernel
theorem d_Shares_partsOf_112 : decode m_Shares_partsOf.2.1 112 = .ok (.iadd, 1) := by decide +kernel
theorem d_Shares_partsOf_113 : decode m_Shares_partsOf.2.1 113 = .ok (.iconst 2, 1) := by decide +kernel
theorem d_Shares_partsOf_114 : decode m_Shares_partsOf.2.1 114 = .ok (.idiv, 1) := by decide +kernel
theorem d_Shares_partsOf_115 : decode m_Shares_partsOf.2.1 115 = .ok (.iastore, 1) := by decide +kernel
theorem d_Shares_partsOf_116 : decode m_Shares_partsOf.2.1 116 = .ok (.iinc 4 1, 3) := by decide +kernel
theorem d_Shares_partsOf_119 : decode m_Shares_partsOf.2.1 119 = .ok (.goto (-116), 3) := by decide +kernel
theorem d_Shares_partsOf_122 : decode m_Shares_partsOf.2.1 122 = .ok (.aload_n 0, 1) := by decide +kernel
theorem d_Shares_partsOf_123 : decode m_Shares_partsOf.2.1 123 = .ok (.getfield 9, 3) := by decide +kernel
theorem d_Shares_partsOf_126 : decode m_Shares_partsOf.2.1 126 = .ok (.iload_n 2, 1) := by decide +kernel
theorem d_Shares_partsOf_127 : decode m_Shares_partsOf.2.1 127 = .ok (.iaload, 1) := by decide +kernel
theorem d_Shares_partsOf_128 : decode m_Shares_partsOf.2.1 128 = .ok (.ireturn, 1) := by decide +kernel
theorem d_Shares_partsOfHands_0 : decode m_Shares_partsOfHands.2.1 0 = .ok (.iload_n 0, 1) := by decide +kernel
theorem d_Shares_partsOfHands_1 : decode m_Shares_partsOfHands.2.1 1 = .ok (.invokestatic 34, 3) := by decide +kernel
theorem d_Shares_partsOfHands_4 : decode m_Shares_partsOfHands.2.1 4 = .ok (.istore_n 2, 1) := by decide +kernel
theorem d_Shares_partsOfHands_5 : decode m_Shares_partsOfHands.2.1 5 = .ok (.iload_n 2, 1) := by decide +kernel
theorem d_Shares_partsOfHands_6 : decode m_Shares_partsOfHands.2.1 6 = .ok (.ifCond .eq 11, 3) := by decide +kernel
theorem d_Shares_partsOfHands_9 : decode m_Shares_partsOfHands.2.1 9 = .ok (.iload_n 0, 1) := by decide +kernel
theorem d_Shares_partsOfHands_10 : decode m_Shares_partsOfHands.2.1 10 = .ok (.iload_n 1, 1) := by decide +kernel
theorem d_Shares_partsOfHands_11 : decode m_Shares_partsOfHands.2.1 11 = .ok (.invokestatic 40, 3) := by decide +kernel
theorem d_Shares_partsOfHands_14 : decode m_Shares_partsOfHands.2.1 14 = .ok (.ifCond .ne 7, 3) := by decide +kernel
theorem d_Shares_partsOfHands_17 : decode m_Shares_partsOfHands.2.1 17 = .ok (.iconst 0, 1) := by decide +kernel
theorem d_Shares_partsOfHands_18 : decode m_Shares_partsOfHands.2.1 18 = .ok (.goto 8, 3) := by decide +kernel
theorem d_Shares_partsOfHands_21 : decode m_Shares_partsOfHands.2.1 21 = .ok (.sipush 6144, 3) := by decide +kernel
theorem d_Shares_partsOfHands_24 : decode m_Shares_partsOfHands.2.1 24 = .ok (.iload_n 2, 1) := by decide +kernel
theorem d_Shares_partsOfHands_25 : decode m_Shares_partsOfHands.2.1 25 = .ok (.idiv, 1) := by decide +kernel
theorem d_Shares_partsOfHands_26 : decode m_Shares_partsOfHands.2.1 26 = .ok (.ireturn, 1) := by decide +kernel
theorem d_Town_addSight_0 : decode m_Town_addSight.2.1 0 = .ok (.aload_n 0, 1) := by decide +kernel
theorem d_Town_addSight_1 : decode m_Town_addSight.2.1 1 = .ok (.getfield 48, 3) := by decide +kernel
theorem d_Town_addSight_4 : decode m_Town_addSight.2.1 4 = .ok (.bipush 6, 2) := by decide +kernel
theorem d_Town_addSight_6 : decode m_Town_addSight.2.1 6 = .ok (.if_icmp .lt 6, 3) := by decide +kernel
theorem d_Town_addSight_9 : decode m_Town_addSight.2.1 9 = .ok (.bipush (-4), 2) := by decide +kernel
theorem d_Town_addSight_11 : decode m_Town_addSight.2.1 11 = .ok (.ireturn, 1) := by decide +kernel
theorem d_Town_addSight_12 : decode m_Town_addSight.2.1 12 = .ok (.aload_n 0, 1) := by decide +kernel
theorem d_Town_addSight_13 : decode m_Town_addSight.2.1 13 = .ok (.getfield 25, 3) := by decide +kernel
theorem d_Town_addSight_16 : decode m_Town_addSight.2.1 16 = .ok (.aload_n 0, 1) := by decide +kernel
theorem d_Town_addSight_17 : decode m_Town_addSight.2.1 17 = .ok (.getfield 48, 3) := by decide +kernel
theorem d_Town_addSight_20 : decode m_Town_addSight.2.1 20 = .ok (.iload_n 1, 1) := by decide +kernel
theorem d_Town_addSight_21 : decode m_Town_addSight.2.1 21 = .ok (.iastore, 1) := by decide +kernel
theorem d_Town_addSight_22 : decode m_Town_addSight.2.1 22 = .ok (.aload_n 0, 1) := by decide +kernel
theorem d_Town_addSight_23 : decode m_Town_addSight.2.1 23 = .ok (.getfield 28, 3) := by decide +kernel
theorem d_Town_addSight_26 : decode m_Town_addSight.2.1 26 = .ok (.aload_n 0, 1) := by decide +kernel
theorem d_Town_addSight_27 : decode m_Town_addSight.2.1 27 = .ok (.getfield 48, 3) := by decide +kernel
theorem d_Town_addSight_30 : decode m_Town_addSight.2.1 30 = .ok (.iload_n 2, 1) := by decide +kernel
theorem d_Town_addSight_31 : decode m_Town_addSight.2.1 31 = .ok (.iastore, 1) := by decide +kernel
theorem d_Town_addSight_32 : decode m_Town_addSight.2.1 32 = .ok (.aload_n 0, 1) := by decide +kernel
theorem d_Town_addSight_33 : decode m_Town_addSight.2.1 33 = .ok (.dup, 1) := by decide +kernel
theorem d_Town_addSight_34 : decode m_Town_addSight.2.1 34 = .ok (.getfield 48, 3) := by decide +kernel
theorem d_Town_addSight_37 : decode m_Town_addSight.2.1 37 = .ok (.iconst 1, 1) := by decide +kernel
theorem d_Town_addSight_38 : decode m_Town_addSight.2.1 38 = .ok (.iadd, 1) := by decide +kernel
theorem d_Town_addSight_39 : decode m_Town_addSight.2.1 39 = .ok (.putfield 48, 3) := by decide +kernel
theorem d_Town_addSight_42 : decode m_Town_addSight.2.1 42 = .ok (.aload_n 0, 1) := by decide +kernel
theorem d_Town_addSight_43 : decode m_Town_addSight.2.1 43 = .ok (.getfield 48, 3) := by decide +kernel
theorem d_Town_addSight_46 : decode m_Town_addSight.2.1 46 = .ok (.ireturn, 1) := by decide +kernel
theorem d_Town_barredMen_0 : decode m_Town_barredMen.2.1 0 = .ok (.aload_n 0, 1) := by decide +kernel
theorem d_Town_barredMen_1 : decode m_Town_barredMen.2.1 1 = .ok (.aload_n 0, 1) := by decide +kernel
theorem d_Town_barredMen_2 : decode m_Town_barredMen.2.1 2 = .ok (.iload_n 1, 1) := by decide +kernel
theorem d_Town_barredMen_3 : decode m_Town_barredMen.2.1 3 = .ok (.invokevirtual 72, 3) := by decide +kernel
theorem d_Town_barredMen_6 : decode m_Town_barredMen.2.1 6 = .ok (.invokevirtual 75, 3) := by decide +kernel
theorem d_Town_barredMen_9 : decode m_Town_barredMen.2.1 9 = .ok (.ireturn, 1) := by decide +kernel
theorem d_Town_become_0 : decode m_Town_become.2.1 0 = .ok (.aload_n 0, 1) := by decide +kernel
theorem d_Town_become_1 : decode m_Town_become.2.1 1 = .ok (.getfield 12, 3) := by decide +kernel
theorem d_Town_become_4 : decode m_Town_become.2.1 4 = .ok (.aload_n 1, 1) := by decide +kernel
theorem d_Town_become_5 : decode m_Town_become.2.1 5 = .ok (.getfield 12, 3) := by decide +kernel
theorem d_Town_become_8 : decode m_Town_become.2.1 8 = .ok (.invokevirtual 38, 3) := by decide +kernel
theorem d_Town_become_11 : decode m_Town_become.2.1 11 = .ok (.aload_n 1, 1) := by decide +kernel
theorem d_Town_become_12 : decode m_Town_become.2.1 12 = .ok (.getfield 18, 3) := by decide +kernel
theorem d_Town_become_15 : decode m_Town_become.2.1 15 = .ok (.iconst 0, 1) := by decide +kernel
theorem d_Town_become_16 : decode m_Town_become.2.1 16 = .ok (.aload_n 0, 1) := by decide +kernel
theorem d_Town_become_17 : decode m_Town_become.2.1 17 = .ok (.getfield 18, 3) := by decide +kernel
theorem d_Town_become_20 : decode m_Town_become.2.1 20 = .ok (.iconst 0, 1) := by decide +kernel
theorem d_Town_become_21 : decode m_Town_become.2.1 21 = .ok (.bipush 6, 2) := by decide +kernel
theorem d_Town_become_23 : decode m_Town_become.2.1 23 = .ok (.invokestatic 42, 3) := by decide +kernel
theorem d_Town_become_26 : decode m_Town_become.2.1 26 = .ok (.aload_n 1, 1) := by decide +kernel
theorem d_Town_become_27 : decode m_Town_become.2.1 27 = .ok (.getfield 22, 3) := by decide +kernel
theorem d_Town_become_30 : decode m_Town_become.2.1 30 = .ok (.iconst 0, 1) := by decide +kernel
theorem d_Town_become_31 : decode m_Town_become.2.1 31 = .ok (.aload_n 0, 1) := by decide +kernel
theorem d_Town_become_32 : decode m_Town_become.2.1 32 = .ok (.getfield 22, 3) := by decide +kernel
theorem d_Town_become_35 : decode m_Town_become.2.1 35 = .ok (.iconst 0, 1) := by decide +kernel
theorem d_Town_become_36 : decode m_Town_become.2.1 36 = .ok (.bipush 10, 2) := by decide +kernel
theorem d_Town_become_38 : decode m_Town_become.2.1 38 = .ok (.invokestatic 42, 3) := by decide +kernel
theorem d_Town_become_41 : decode m_Town_become.2.1 41 = .ok (.aload_n 1, 1) := by decide +kernel
theorem d_Town_become_42 : decode m_Town_become.2.1 42 = .ok (.getfield 25, 3) := by decide +kernel
theorem d_Town_become_45 : decode m_Town_become.2.1 45 = .ok (.iconst 0, 1) := by decide +kernel
theorem d_Town_become_46 : decode m_Town_become.2.1 46 = .ok (.aload_n 0, 1) := by decide +kernel
theorem d_Town_become_47 : decode m_Town_become.2.1 47 = .ok (.getfield 25, 3) := by decide +kernel
theorem d_Town_become_50 : decode m_Town_become.2.1 50 = .ok (.iconst 0, 1) := by decide +kernel
theorem d_Town_become_51 : decode m_Town_become.2.1 51 = .ok (.bipush 6, 2) := by decide +kernel
theorem d_Town_become_53 : decode m_Town_become.2.1 53 = .ok (.invokestatic 42, 3) := by decide +kernel
theorem d_Town_become_56 : decode m_Town_become.2.1 56 = .ok (.aload_n 1, 1) := by decide +kernel
theorem d_Town_become_57 : decode m_Town_become.2.1 57 = .ok (.getfield 28, 3) := by decide +kernel
theorem d_Town_become_60 : decode m_Town_become.2.1 60 = .ok (.iconst 0, 1) := by decide +kernel
theorem d_Town_become_61 : decode m_Town_become.2.1 61 = .ok (.aload_n 0, 1) := by decide +kernel
theorem d_Town_become_62 : decode m_Town_become.2.1 62 = .ok (.getfield 28, 3) := by decide +kernel
theorem d_Town_become_65 : decode m_Town_become.2.1 65 = .ok (.iconst 0, 1) := by decide +kernel
theorem d_Town_become_66 : decode m_Town_become.2.1 66 = .ok (.bipush 6, 2) := by decide +kernel
theorem d_Town_become_68 : decode m_Town_become.2.1 68 = .ok (.invokestatic 42, 3) := by decide +kernel
theorem d_Town_become_71 : decode m_Town_become.2.1 71 = .ok (.aload_n 0, 1) := by decide +kernel
theorem d_Town_become_72 : decode m_Town_become.2.1 72 = .ok (.aload_n 1, 1) := by decide +kernel
theorem d_Town_become_73 : decode m_Town_become.2.1 73 = .ok (.getfield 48, 3) := by decide +kernel
theorem d_Town_become_76 : decode m_Town_become.2.1 76 = .ok (.putfield 48, 3) := by decide +kernel
theorem d_Town_become_79 : decode m_Town_become.2.1 79 = .ok (.aload_n 0, 1) := by decide +kernel
theorem d_Town_become_80 : decode m_Town_become.2.1 80 = .ok (.aload_n 1, 1) := by decide +kernel
theorem d_Town_become_81 : decode m_Town_become.2.1 81 = .ok (.getfield 31, 3) := by decide +kernel
theorem d_Town_become_84 : decode m_Town_become.2.1 84 = .ok (.putfield 31, 3) := by decide +kernel
theorem d_Town_become_87 : decode m_Town_become.2.1 87 = .ok (.aload_n 0, 1) := by decide +kernel
theorem d_Town_become_88 : decode m_Town_become.2.1 88 = .ok (.aload_n 1, 1) := by decide +kernel
theorem d_Town_become_89 : decode m_Town_become.2.1 89 = .ok (.getfield 51, 3) := by decide +kernel
theorem d_Town_become_92 : decode m_Town_become.2.1 92 = .ok (.putfield 51, 3) := by decide +kernel
theorem d_Town_become_95 : decode m_Town_become.2.1 95 = .ok (.aload_n 0, 1) := by decide +kernel
theorem d_Town_become_96 : decode m_Town_become.2.1 96 = .ok (.aload_n 1, 1) := by decide +kernel
theorem d_Town_become_97 : decode m_Town_become.2.1 97 = .ok (.getfield 35, 3) := by decide +kernel
theorem d_Town_become_100 : decode m_Town_become.2.1 100 = .ok (.putfield 35, 3) := by decide +kernel
theorem d_Town_become_103 : decode m_Town_become.2.1 103 = .ok (.return_, 1) := by decide +kernel
theorem d_Town_change_0 : decode m_Town_change.2.1 0 = .ok (.iload_n 1, 1) := by decide +kernel
theorem d_Town_change_1 : decode m_Town_change.2.1 1 = .ok (.ifCond .ne 16, 3) := by decide +kernel
theorem d_Town_change_4 : decode m_Town_change.2.1 4 = .ok (.aload_n 0, 1) := by decide +kernel
theorem d_Town_change_5 : decode m_Town_change.2.1 5 = .ok (.getfield 31, 3) := by decide +kernel
theorem d_Town_change_8 : decode m_Town_change.2.1 8 = .ok (.istore_n 3, 1) := by decide +kernel
theorem d_Town_change_9 : decode m_Town_change.2.1 9 = .ok (.aload_n 0, 1) := by decide +kernel
theorem d_Town_change_10 : decode m_Town_change.2.1 10 = .ok (.iload_n 2, 1) := by decide +kernel
theorem d_Town_change_11 : decode m_Town_change.2.1 11 = .ok (.putfield 31, 3) := by decide +kernel
theorem d_Town_change_14 : decode m_Town_change.2.1 14 = .ok (.goto 31, 3) := by decide +kernel
theorem d_Town_change_17 : decode m_Town_change.2.1 17 = .ok (.iload_n 1, 1) := by decide +kernel
theorem d_Town_change_18 : decode m_Town_change.2.1 18 = .ok (.iconst 1, 1) := by decide +kernel
theorem d_Town_change_19 : decode m_Town_change.2.1 19 = .ok (.if_icmp .ne 16, 3) := by decide +kernel
theorem d_Town_change_22 : decode m_Town_change.2.1 22 = .ok (.aload_n 0, 1) := by decide +kernel
theorem d_Town_change_23 : decode m_Town_change.2.1 23 = .ok (.getfield 51, 3) := by decide +kernel
theorem d_Town_change_26 : decode m_Town_change.2.1 26 = .ok (.istore_n 3, 1) := by decide +kernel
theorem d_Town_change_27 : decode m_Town_change.2.1 27 = .ok (.aload_n 0, 1) := by decide +kernel
theorem d_Town_change_28 : decode m_Town_change.2.1 28 = .ok (.iload_n 2, 1) := by decide +kernel
theorem d_Town_change_29 : decode m_Town_change.2.1 29 = .ok (.putfield 51, 3) := by decide +kernel
theorem d_Town_change_32 : decode m_Town_change.2.1 32 = .ok (.goto 13, 3) := by decide +kernel
theorem d_Town_change_35 : decode m_Town_change.2.1 35 = .ok (.aload_n 0, 1) := by decide +kernel
theorem d_Town_change_36 : decode m_Town_change.2.1 36 = .ok (.getfield 35, 3) := by decide +kernel
theorem d_Town_change_39 : decode m_Town_change.2.1 39 = .ok (.istore_n 3, 1) := by decide +kernel
theorem d_Town_change_40 : decode m_Town_change.2.1 40 = .ok (.aload_n 0, 1) := by decide +kernel
theorem d_Town_change_41 : decode m_Town_change.2.1 41 = .ok (.iload_n 2, 1) := by decide +kernel
theorem d_Town_change_42 : decode m_Town_change.2.1 42 = .ok (.putfield 35, 3) := by decide +kernel
theorem d_Town_change_45 : decode m_Town_change.2.1 45 = .ok (.iload_n 3, 1) := by decide +kernel
theorem d_Town_change_46 : decode m_Town_change.2.1 46 = .ok (.ireturn, 1) := by decide +kernel
theorem d_Town_couple_0 : decode m_Town_couple.2.1 0 = .ok (.aload_n 0, 1) := by decide +kernel
theorem d_Town_couple_1 : decode m_Town_couple.2.1 1 = .ok (.getfield 18, 3) := by decide +kernel
theorem d_Town_couple_4 : decode m_Town_couple.2.1 4 = .ok (.iload_n 1, 1) := by decide +kernel
theorem d_Town_couple_5 : decode m_Town_couple.2.1 5 = .ok (.iaload, 1) := by decide +kernel
theorem d_Town_couple_6 : decode m_Town_couple.2.1 6 = .ok (.istore_n 2, 1) := by decide +kernel
theorem d_Town_couple_7 : decode m_Town_couple.2.1 7 = .ok (.iconst 1, 1) := by decide +kernel
theorem d_Town_couple_8 : decode m_Town_couple.2.1 8 = .ok (.iload_n 1, 1) := by decide +kernel
theorem d_Town_couple_9 : decode m_Town_couple.2.1 9 = .ok (.ishl, 1) := by decide +kernel
theorem d_Town_couple_10 : decode m_Town_couple.2.1 10 = .ok (.iload_n 2, 1) := by decide +kernel
theorem d_Town_couple_11 : decode m_Town_couple.2.1 11 = .ok (.bipush (-6), 2) := by decide +kernel
theorem d_Town_couple_13 : decode m_Town_couple.2.1 13 = .ok (.if_icmp .ne 7, 3) := by decide +kernel
theorem d_Town_couple_16 : decode m_Town_couple.2.1 16 = .ok (.iconst 0, 1) := by decide +kernel
theorem d_Town_couple_17 : decode m_Town_couple.2.1 17 = .ok (.goto 6, 3) := by decide +kernel
theorem d_Town_couple_20 : decode m_Town_couple.2.1 20 = .ok (.iconst 1, 1) := by decide +kernel
theorem d_Town_couple_21 : decode m_Town_couple.2.1 21 = .ok (.iload_n 2, 1) := by decide +kernel
theorem d_Town_couple_22 : decode m_Town_couple.2.1 22 = .ok (.ishl, 1) := by decide +kernel
theorem d_Town_couple_23 : decode m_Town_couple.2.1 23 = .ok (.ior, 1) := by decide +kernel
theorem d_Town_couple_24 : decode m_Town_couple.2.1 24 = .ok (.ireturn, 1) := by decide +kernel
theorem d_Town_dropSights_0 : decode m_Town_dropSights.2.1 0 = .ok (.aload_n 0, 1) := by decide +kernel
theorem d_Town_dropSights_1 : decode m_Town_dropSights.2.1 1 = .ok (.getfield 48, 3) := by decide +kernel
theorem d_Town_dropSights_4 : decode m_Town_dropSights.2.1 4 = .ok (.istore_n 1, 1) := by decide +kernel
theorem d_Town_dropSights_5 : decode m_Town_dropSights.2.1 5 = .ok (.aload_n 0, 1) := by decide +kernel
theorem d_Town_dropSights_6 : decode m_Town_dropSights.2.1 6 = .ok (.iconst 0, 1) := by decide +kernel
theorem d_Town_dropSights_7 : decode m_Town_dropSights.2.1 7 = .ok (.putfield 48, 3) := by decide +kernel
theorem d_Town_dropSights_10 : decode m_Town_dropSights.2.1 10 = .ok (.iload_n 1, 1) := by decide +kernel
theorem d_Town_dropSights_11 : decode m_Town_dropSights.2.1 11 = .ok (.ireturn, 1) := by decide +kernel
theorem d_Town_fewestSteps_0 : decode m_Town_fewestSteps.2.1 0 = .ok (.iconst 1, 1) := by decide +kernel
theorem d_Town_fewestSteps_1 : decode m_Town_fewestSteps.2.1 1 = .ok (.iload_n 1, 1) := by decide +kernel
theorem d_Town_fewestSteps_2 : decode m_Town_fewestSteps.2.1 2 = .ok (.ishl, 1) := by decide +kernel
theorem d_Town_fewestSteps_3 : decode m_Town_fewestSteps.2.1 3 = .ok (.istore_n 3, 1) := by decide +kernel
theorem d_Town_fewestSteps_4 : decode m_Town_fewestSteps.2.1 4 = .ok (.iconst 0, 1) := by decide +kernel
theorem d_Town_fewestSteps_5 : decode m_Town_fewestSteps.2.1 5 = .ok (.istore 4, 2) := by decide +kernel
theorem d_Town_fewestSteps_7 : decode m_Town_fewestSteps.2.1 7 = .ok (.iload 4, 2) := by decide +kernel
theorem d_Town_fewestSteps_9 : decode m_Town_fewestSteps.2.1 9 = .ok (.bipush 10, 2) := by decide +kernel
theorem d_Town_fewestSteps_11 : decode m_Town_fewestSteps.2.1 11 = .ok (.if_icmp .ge 51, 3) := by decide +kernel
theorem d_Town_fewestSteps_14 : decode m_Town_fewestSteps.2.1 14 = .ok (.iload_n 3, 1) := by decide +kernel
theorem d_Town_fewestSteps_15 : decode m_Town_fewestSteps.2.1 15 = .ok (.ifCond .eq 47, 3) := by decide +kernel
theorem d_Town_fewestSteps_18 : decode m_Town_fewestSteps.2.1 18 = .ok (.aload_n 0, 1) := by decide +kernel
theorem d_Town_fewestSteps_19 : decode m_Town_fewestSteps.2.1 19 = .ok (.getfield 12, 3) := by decide +kernel
theorem d_Town_fewestSteps_22 : decode m_Town_fewestSteps.2.1 22 = .ok (.iload_n 3, 1) := by decide +kernel
theorem d_Town_fewestSteps_23 : decode m_Town_fewestSteps.2.1 23 = .ok (.invokevirtual 69, 3) := by decide +kernel
theorem d_Town_fewestSteps_26 : decode m_Town_fewestSteps.2.1 26 = .ok (.iload_n 2, 1) := by decide +kernel
theorem d_Town_fewestSteps_27 : decode m_Town_fewestSteps.2.1 27 = .ok (.iand, 1) := by decide +kernel
theorem d_Town_fewestSteps_28 : decode m_Town_fewestSteps.2.1 28 = .ok (.ifCond .eq 6, 3) := by decide +kernel
theorem d_Town_fewestSteps_31 : decode m_Town_fewestSteps.2.1 31 = .ok (.iload 4, 2) := by decide +kernel
theorem d_Town_fewestSteps_33 : decode m_Town_fewestSteps.2.1 33 = .ok (.ireturn, 1) := by decide +kernel
theorem d_Town_fewestSteps_34 : decode m_Town_fewestSteps.2.1 34 = .ok (.aload_n 0, 1) := by decide +kernel
theorem d_Town_fewestSteps_35 : decode m_Town_fewestSteps.2.1 35 = .ok (.getfield 12, 3) := by decide +kernel
theorem d_Town_fewestSteps_38 : decode m_Town_fewestSteps.2.1 38 = .ok (.iload_n 3, 1) := by decide +kernel
theorem d_Town_fewestSteps_39 : decode m_Town_fewestSteps.2.1 39 = .ok (.aload_n 0, 1) := by decide +kernel
theorem d_Town_fewestSteps_40 : decode m_Town_fewestSteps.2.1 40 = .ok (.getfield 51, 3) := by decide +kernel
theorem d_Town_fewestSteps_43 : decode m_Town_fewestSteps.2.1 43 = .ok (.iconst 1, 1) := by decide +kernel
theorem d_Town_fewestSteps_44 : decode m_Town_fewestSteps.2.1 44 = .ok (.if_icmp .ne 7, 3) := by decide +kernel
theorem d_Town_fewestSteps_47 : decode m_Town_fewestSteps.2.1 47 = .ok (.iconst 1, 1) := by decide +kernel
theorem d_Town_fewestSteps_48 : decode m_Town_fewestSteps.2.1 48 = .ok (.goto 4, 3) := by decide +kernel
theorem d_Town_fewestSteps_51 : decode m_Town_fewestSteps.2.1 51 = .ok (.iconst 0, 1) := by decide +kernel
theorem d_Town_fewestSteps_52 : decode m_Town_fewestSteps.2.1 52 = .ok (.invokevirtual 62, 3) := by decide +kernel
theorem d_Town_fewestSteps_55 : decode m_Town_fewestSteps.2.1 55 = .ok (.istore_n 3, 1) := by decide +kernel
theorem d_Town_fewestSteps_56 : decode m_Town_fewestSteps.2.1 56 = .ok (.iinc 4 1, 3) := by decide +kernel
theorem d_Town_fewestSteps_59 : decode m_Town_fewestSteps.2.1 59 = .ok (.goto (-52), 3) := by decide +kernel
theorem d_Town_fewestSteps_62 : decode m_Town_fewestSteps.2.1 62 = .ok (.bipush (-6), 2) := by decide +kernel
theorem d_Town_fewestSteps_64 : decode m_Town_fewestSteps.2.1 64 = .ok (.ireturn, 1) := by decide +kernel
theorem d_Town_init_0 : decode m_Town_init.2.1 0 = .ok (.aload_n 0, 1) := by decide +kernel
theorem d_Town_init_1 : decode m_Town_init.2.1 1 = .ok (.invokespecial 3, 3) := by decide +kernel
theorem d_Town_init_4 : decode m_Town_init.2.1 4 = .ok (.aload_n 0, 1) := by decide +kernel
theorem d_Town_init_5 : decode m_Town_init.2.1 5 = .ok (.new 9, 3) := by decide +kernel
theorem d_Town_init_8 : decode m_Town_init.2.1 8 = .ok (.dup, 1) := by decide +kernel
theorem d_Town_init_9 : decode m_Town_init.2.1 9 = .ok (.invokespecial 11, 3) := by decide +kernel
theorem d_Town_init_12 : decode m_Town_init.2.1 12 = .ok (.putfield 12, 3) := by decide +kernel
theorem d_Town_init_15 : decode m_Town_init.2.1 15 = .ok (.aload_n 0, 1) := by decide +kernel
theorem d_Town_init_16 : decode m_Town_init.2.1 16 = .ok (.bipush 6, 2) := by decide +kernel
theorem d_Town_init_18 : decode m_Town_init.2.1 18 = .ok (.newarray .int, 2) := by decide +kernel
theorem d_Town_init_20 : decode m_Town_init.2.1 20 = .ok (.putfield 18, 3) := by decide +kernel
theorem d_Town_init_23 : decode m_Town_init.2.1 23 = .ok (.aload_n 0, 1) := by decide +kernel
theorem d_Town_init_24 : decode m_Town_init.2.1 24 = .ok (.bipush 10, 2) := by decide +kernel
theorem d_Town_init_26 : decode m_Town_init.2.1 26 = .ok (.newarray .int, 2) := by decide +kernel
theorem d_Town_init_28 : decode m_Town_init.2.1 28 = .ok (.putfield 22, 3) := by decide +kernel
theorem d_Town_init_31 : decode m_Town_init.2.1 31 = .ok (.aload_n 0, 1) := by decide +kernel
theorem d_Town_init_32 : decode m_Town_init.2.1 32 = .ok (.bipush 6, 2) := by decide +kernel
theorem d_Town_init_34 : decode m_Town_init.2.1 34 = .ok (.newarray .int, 2) := by decide +kernel
theorem d_Town_init_36 : decode m_Town_init.2.1 36 = .ok (.putfield 25, 3) := by decide +kernel
theorem d_Town_init_39 : decode m_Town_init.2.1 39 = .ok (.aload_n 0, 1) := by decide +kernel
theorem d_Town_init_40 : decode m_Town_init.2.1 40 = .ok (.bipush 6, 2) := by decide +kernel
theorem d_Town_init_42 : decode m_Town_init.2.1 42 = .ok (.newarray .int, 2) := by decide +kernel
theorem d_Town_init_44 : decode m_Town_init.2.1 44 = .ok (.putfield 28, 3) := by decide +kernel
theorem d_Town_init_47 : decode m_Town_init.2.1 47 = .ok (.aload_n 0, 1) := by decide +kernel
theorem d_Town_init_48 : decode m_Town_init.2.1 48 = .ok (.iconst 2, 1) := by decide +kernel
theorem d_Town_init_49 : decode m_Town_init.2.1 49 = .ok (.putfield 31, 3) := by decide +kernel
theorem d_Town_init_52 : decode m_Town_init.2.1 52 = .ok (.aload_n 0, 1) := by decide +kernel
theorem d_Town_init_53 : decode m_Town_init.2.1 53 = .ok (.iconst 1, 1) := by decide +kernel
theorem d_Town_init_54 : decode m_Town_init.2.1 54 = .ok (.putfield 35, 3) := by decide +kernel
theorem d_Town_init_57 : decode m_Town_init.2.1 57 = .ok (.iconst 0, 1) := by decide +kernel
theorem d_Town_init_58 : decode m_Town_init.2.1 58 = .ok (.istore_n 1, 1) := by decide +kernel
theorem d_Town_init_59 : decode m_Town_init.2.1 59 = .ok (.iload_n 1, 1) := by decide +kernel
theorem d_Town_init_60 : decode m_Town_init.2.1 60 = .ok (.bipush 6, 2) := by decide +kernel
theorem d_Town_init_62 : decode m_Town_init.2.1 62 = .ok (.if_icmp .ge 17, 3) := by decide +kernel
theorem d_Town_init_65 : decode m_Town_init.2.1 65 = .ok (.aload_n 0, 1) := by decide +kernel
theorem d_Town_init_66 : decode m_Town_init.2.1 66 = .ok (.getfield 18, 3) := by decide +kernel
theorem d_Town_init_69 : decode m_Town_init.2.1 69 = .ok (.iload_n 1, 1) := by decide +kernel
theorem d_Town_init_70 : decode m_Town_init.2.1 70 = .ok (.bipush (-6), 2) := by decide +kernel
theorem d_Town_init_72 : decode m_Town_init.2.1 72 = .ok (.iastore, 1) := by decide +kernel
theorem d_Town_init_73 : decode m_Town_init.2.1 73 = .ok (.iinc 1 1, 3) := by decide +kernel
theorem d_Town_init_76 : decode m_Town_init.2.1 76 = .ok (.goto (-17), 3) := by decide +kernel
theorem d_Town_init_79 : decode m_Town_init.2.1 79 = .ok (.return_, 1) := by decide +kernel
theorem d_Town_lawfulThings_0 : decode m_Town_lawfulThings.2.1 0 = .ok (.iconst 0, 1) := by decide +kernel
theorem d_Town_lawfulThings_1 : decode m_Town_lawfulThings.2.1 1 = .ok (.istore_n 2, 1) := by decide +kernel
theorem d_Town_lawfulThings_2 : decode m_Town_lawfulThings.2.1 2 = .ok (.iconst 0, 1) := by decide +kernel
theorem d_Town_lawfulThings_3 : decode m_Town_lawfulThings.2.1 3 = .ok (.istore_n 3, 1) := by decide +kernel
theorem d_Town_lawfulThings_4 : decode m_Town_lawfulThings.2.1 4 = .ok (.iload_n 3, 1) := by decide +kernel
theorem d_Town_lawfulThings_5 : decode m_Town_lawfulThings.2.1 5 = .ok (.aload_n 0, 1) := by decide +kernel
theorem d_Town_lawfulThings_6 : decode m_Town_lawfulThings.2.1 6 = .ok (.getfield 12, 3) := by decide +kernel
theorem d_Town_lawfulThings_9 : decode m_Town_lawfulThings.2.1 9 = .ok (.getfield 78, 3) := by decide +kernel
theorem d_Town_lawfulThings_12 : decode m_Town_lawfulThings.2.1 12 = .ok (.if_icmp .ge 29, 3) := by decide +kernel
theorem d_Town_lawfulThings_15 : decode m_Town_lawfulThings.2.1 15 = .ok (.aload_n 0, 1) := by decide +kernel
theorem d_Town_lawfulThings_16 : decode m_Town_lawfulThings.2.1 16 = .ok (.iload_n 3, 1) := by decide +kernel
theorem d_Town_lawfulThings_17 : decode m_Town_lawfulThings.2.1 17 = .ok (.invokevirtual 72, 3) := by decide +kernel
theorem d_Town_lawfulThings_20 : decode m_Town_lawfulThings.2.1 20 = .ok (.aload_n 0, 1) := by decide +kernel
theorem d_Town_lawfulThings_21 : decode m_Town_lawfulThings.2.1 21 = .ok (.iload_n 1, 1) := by decide +kernel
theorem d_Town_lawfulThings_22 : decode m_Town_lawfulThings.2.1 22 = .ok (.invokevirtual 58, 3) := by decide +kernel
theorem d_Town_lawfulThings_25 : decode m_Town_lawfulThings.2.1 25 = .ok (.iand, 1) := by decide +kernel
theorem d_Town_lawfulThings_26 : decode m_Town_lawfulThings.2.1 26 = .ok (.ifCond .ne 9, 3) := by decide +kernel
theorem d_Town_lawfulThings_29 : decode m_Town_lawfulThings.2.1 29 = .ok (.iload_n 2, 1) := by decide +kernel
theorem d_Town_lawfulThings_30 : decode m_Town_lawfulThings.2.1 30 = .ok (.iconst 1, 1) := by decide +kernel
theorem d_Town_lawfulThings_31 : decode m_Town_lawfulThings.2.1 31 = .ok (.iload_n 3, 1) := by decide +kernel
theorem d_Town_lawfulThings_32 : decode m_Town_lawfulThings.2.1 32 = .ok (.ishl, 1) := by decide +kernel
theorem d_Town_lawfulThings_33 : decode m_Town_lawfulThings.2.1 33 = .ok (.ior, 1) := by decide +kernel
theorem d_Town_lawfulThings_34 : decode m_Town_lawfulThings.2.1 34 = .ok (.istore_n 2, 1) := by decide +kernel
theorem d_Town_lawfulThings_35 : decode m_Town_lawfulThings.2.1 35 = .ok (.iinc 3 1, 3) := by decide +kernel
theorem d_Town_lawfulThings_38 : decode m_Town_lawfulThings.2.1 38 = .ok (.goto (-34), 3) := by decide +kernel
theorem d_Town_lawfulThings_41 : decode m_Town_lawfulThings.2.1 41 = .ok (.iload_n 2, 1) := by decide +kernel
theorem d_Town_lawfulThings_42 : decode m_Town_lawfulThings.2.1 42 = .ok (.ireturn, 1) := by decide +kernel
theorem d_Town_mostOf_0 : decode m_Town_mostOf.2.1 0 = .ok (.iload_n 0, 1) := by decide +kernel
theorem d_Town_mostOf_1 : decode m_Town_mostOf.2.1 1 = .ok (.lookupswitch 32 #[(0, 27), (1, 30)], 27) := by decide +kernel
theorem d_Town_mostOf_28 : decode m_Town_mostOf.2.1 28 = .ok (.bipush 9, 2) := by decide +kernel
theorem d_Town_mostOf_30 : decode m_Town_mostOf.2.1 30 = .ok (.ireturn, 1) := by decide +kernel
theorem d_Town_mostOf_31 : decode m_Town_mostOf.2.1 31 = .ok (.iconst 1, 1) := by decide +kernel
theorem d_Town_mostOf_32 : decode m_Town_mostOf.2.1 32 = .ok (.ireturn, 1) := by decide +kernel
theorem d_Town_mostOf_33 : decode m_Town_mostOf.2.1 33 = .ok (.bipush 10, 2) := by decide +kernel
theorem d_Town_mostOf_35 : decode m_Town_mostOf.2.1 35 = .ok (.ireturn, 1) := by decide +kernel
theorem d_Town_open_0 : decode m_Town_open.2.1 0 = .ok (.aload_n 0, 1) := by decide +kernel
theorem d_Town_open_1 : decode m_Town_open.2.1 1 = .ok (.getfield 12, 3) := by decide +kernel
theorem d_Town_open_4 : decode m_Town_open.2.1 4 = .ok (.aload_n 1, 1) := by decide +kernel
theorem d_Town_open_5 : decode m_Town_open.2.1 5 = .ok (.invokevirtual 38, 3) := by decide +kernel
theorem d_Town_open_8 : decode m_Town_open.2.1 8 = .ok (.iconst 0, 1) := by decide +kernel
theorem d_Town_open_9 : decode m_Town_open.2.1 9 = .ok (.istore_n 2, 1) := by decide +kernel
theorem d_Town_open_10 : decode m_Town_open.2.1 10 = .ok (.iload_n 2, 1) := by decide +kernel
theorem d_Town_open_11 : decode m_Town_open.2.1 11 = .ok (.bipush 10, 2) := by decide +kernel
theorem d_Town_open_13 : decode m_Town_open.2.1 13 = .ok (.if_icmp .ge 16, 3) := by decide +kernel
theorem d_Town_open_16 : decode m_Town_open.2.1 16 = .ok (.aload_n 0, 1) := by decide +kernel
theorem d_Town_open_17 : decode m_Town_open.2.1 17 = .ok (.getfield 22, 3) := by decide +kernel
theorem d_Town_open_20 : decode m_Town_open.2.1 20 = .ok (.iload_n 2, 1) := by decide +kernel
theorem d_Town_open_21 : decode m_Town_open.2.1 21 = .ok (.iconst 0, 1) := by decide +kernel
theorem d_Town_open_22 : decode m_Town_open.2.1 22 = .ok (.iastore, 1) := by decide +kernel
theorem d_Town_open_23 : decode m_Town_open.2.1 23 = .ok (.iinc 2 1, 3) := by decide +kernel
theorem d_Town_open_26 : decode m_Town_open.2.1 26 = .ok (.goto (-16), 3) := by decide +kernel
theorem d_Town_open_29 : decode m_Town_open.2.1 29 = .ok (.aload_n 0, 1) := by decide +kernel
theorem d_Town_open_30 : decode m_Town_open.2.1 30 = .ok (.iconst 0, 1) := by decide +kernel
theorem d_Town_open_31 : decode m_Town_open.2.1 31 = .ok (.putfield 48, 3) := by decide +kernel
end
section
theorem d_Town_open_34 : decode m_Town_open.2.1 34 = .ok (.return_, 1) := by decide +kernel
theorem d_Town_reach_0 : decode m_Town_reach.2.1 0 = .ok (.iconst 0, 1) := by decide +kernel
theorem d_Town_reach_1 : decode m_Town_reach.2.1 1 = .ok (.istore_n 2, 1) := by decide +kernel
theorem d_Town_reach_2 : decode m_Town_reach.2.1 2 = .ok (.iconst 1, 1) := by decide +kernel
theorem d_Town_reach_3 : decode m_Town_reach.2.1 3 = .ok (.iload_n 1, 1) := by decide +kernel
theorem d_Town_reach_4 : decode m_Town_reach.2.1 4 = .ok (.ishl, 1) := by decide +kernel
theorem d_Town_reach_5 : decode m_Town_reach.2.1 5 = .ok (.istore_n 3, 1) := by decide +kernel
theorem d_Town_reach_6 : decode m_Town_reach.2.1 6 = .ok (.iconst 0, 1) := by decide +kernel
theorem d_Town_reach_7 : decode m_Town_reach.2.1 7 = .ok (.istore 4, 2) := by decide +kernel
theorem d_Town_reach_9 : decode m_Town_reach.2.1 9 = .ok (.iload 4, 2) := by decide +kernel
theorem d_Town_reach_11 : decode m_Town_reach.2.1 11 = .ok (.aload_n 0, 1) := by decide +kernel
theorem d_Town_reach_12 : decode m_Town_reach.2.1 12 = .ok (.getfield 31, 3) := by decide +kernel
theorem d_Town_reach_15 : decode m_Town_reach.2.1 15 = .ok (.if_icmp .gt 39, 3) := by decide +kernel
theorem d_Town_reach_18 : decode m_Town_reach.2.1 18 = .ok (.iload_n 3, 1) := by decide +kernel
theorem d_Town_reach_19 : decode m_Town_reach.2.1 19 = .ok (.ifCond .eq 35, 3) := by decide +kernel
theorem d_Town_reach_22 : decode m_Town_reach.2.1 22 = .ok (.iload_n 2, 1) := by decide +kernel
theorem d_Town_reach_23 : decode m_Town_reach.2.1 23 = .ok (.iload_n 3, 1) := by decide +kernel
theorem d_Town_reach_24 : decode m_Town_reach.2.1 24 = .ok (.ior, 1) := by decide +kernel
theorem d_Town_reach_25 : decode m_Town_reach.2.1 25 = .ok (.istore_n 2, 1) := by decide +kernel
theorem d_Town_reach_26 : decode m_Town_reach.2.1 26 = .ok (.aload_n 0, 1) := by decide +kernel
theorem d_Town_reach_27 : decode m_Town_reach.2.1 27 = .ok (.getfield 12, 3) := by decide +kernel
theorem d_Town_reach_30 : decode m_Town_reach.2.1 30 = .ok (.iload_n 3, 1) := by decide +kernel
theorem d_Town_reach_31 : decode m_Town_reach.2.1 31 = .ok (.aload_n 0, 1) := by decide +kernel
theorem d_Town_reach_32 : decode m_Town_reach.2.1 32 = .ok (.getfield 51, 3) := by decide +kernel
theorem d_Town_reach_35 : decode m_Town_reach.2.1 35 = .ok (.iconst 1, 1) := by decide +kernel
theorem d_Town_reach_36 : decode m_Town_reach.2.1 36 = .ok (.if_icmp .ne 7, 3) := by decide +kernel
theorem d_Town_reach_39 : decode m_Town_reach.2.1 39 = .ok (.iconst 1, 1) := by decide +kernel
theorem d_Town_reach_40 : decode m_Town_reach.2.1 40 = .ok (.goto 4, 3) := by decide +kernel
theorem d_Town_reach_43 : decode m_Town_reach.2.1 43 = .ok (.iconst 0, 1) := by decide +kernel
theorem d_Town_reach_44 : decode m_Town_reach.2.1 44 = .ok (.invokevirtual 62, 3) := by decide +kernel
theorem d_Town_reach_47 : decode m_Town_reach.2.1 47 = .ok (.istore_n 3, 1) := by decide +kernel
theorem d_Town_reach_48 : decode m_Town_reach.2.1 48 = .ok (.iinc 4 1, 3) := by decide +kernel
theorem d_Town_reach_51 : decode m_Town_reach.2.1 51 = .ok (.goto (-42), 3) := by decide +kernel
theorem d_Town_reach_54 : decode m_Town_reach.2.1 54 = .ok (.iload_n 2, 1) := by decide +kernel
theorem d_Town_reach_55 : decode m_Town_reach.2.1 55 = .ok (.ireturn, 1) := by decide +kernel
theorem d_Town_taintOf_0 : decode m_Town_taintOf.2.1 0 = .ok (.iconst 0, 1) := by decide +kernel
theorem d_Town_taintOf_1 : decode m_Town_taintOf.2.1 1 = .ok (.istore_n 2, 1) := by decide +kernel
theorem d_Town_taintOf_2 : decode m_Town_taintOf.2.1 2 = .ok (.iconst 0, 1) := by decide +kernel
theorem d_Town_taintOf_3 : decode m_Town_taintOf.2.1 3 = .ok (.istore_n 3, 1) := by decide +kernel
theorem d_Town_taintOf_4 : decode m_Town_taintOf.2.1 4 = .ok (.iload_n 3, 1) := by decide +kernel
theorem d_Town_taintOf_5 : decode m_Town_taintOf.2.1 5 = .ok (.aload_n 0, 1) := by decide +kernel
theorem d_Town_taintOf_6 : decode m_Town_taintOf.2.1 6 = .ok (.getfield 12, 3) := by decide +kernel
theorem d_Town_taintOf_9 : decode m_Town_taintOf.2.1 9 = .ok (.getfield 78, 3) := by decide +kernel
theorem d_Town_taintOf_12 : decode m_Town_taintOf.2.1 12 = .ok (.if_icmp .ge 27, 3) := by decide +kernel
theorem d_Town_taintOf_15 : decode m_Town_taintOf.2.1 15 = .ok (.aload_n 0, 1) := by decide +kernel
theorem d_Town_taintOf_16 : decode m_Town_taintOf.2.1 16 = .ok (.iload_n 3, 1) := by decide +kernel
theorem d_Town_taintOf_17 : decode m_Town_taintOf.2.1 17 = .ok (.invokevirtual 72, 3) := by decide +kernel
theorem d_Town_taintOf_20 : decode m_Town_taintOf.2.1 20 = .ok (.iload_n 1, 1) := by decide +kernel
theorem d_Town_taintOf_21 : decode m_Town_taintOf.2.1 21 = .ok (.invokestatic 54, 3) := by decide +kernel
theorem d_Town_taintOf_24 : decode m_Town_taintOf.2.1 24 = .ok (.ifCond .eq 9, 3) := by decide +kernel
theorem d_Town_taintOf_27 : decode m_Town_taintOf.2.1 27 = .ok (.iload_n 2, 1) := by decide +kernel
theorem d_Town_taintOf_28 : decode m_Town_taintOf.2.1 28 = .ok (.iconst 1, 1) := by decide +kernel
theorem d_Town_taintOf_29 : decode m_Town_taintOf.2.1 29 = .ok (.iload_n 3, 1) := by decide +kernel
theorem d_Town_taintOf_30 : decode m_Town_taintOf.2.1 30 = .ok (.ishl, 1) := by decide +kernel
theorem d_Town_taintOf_31 : decode m_Town_taintOf.2.1 31 = .ok (.ior, 1) := by decide +kernel
theorem d_Town_taintOf_32 : decode m_Town_taintOf.2.1 32 = .ok (.istore_n 2, 1) := by decide +kernel
theorem d_Town_taintOf_33 : decode m_Town_taintOf.2.1 33 = .ok (.iinc 3 1, 3) := by decide +kernel
theorem d_Town_taintOf_36 : decode m_Town_taintOf.2.1 36 = .ok (.goto (-32), 3) := by decide +kernel
theorem d_Town_taintOf_39 : decode m_Town_taintOf.2.1 39 = .ok (.iload_n 2, 1) := by decide +kernel
theorem d_Town_taintOf_40 : decode m_Town_taintOf.2.1 40 = .ok (.ireturn, 1) := by decide +kernel
theorem d_Town_touchers_0 : decode m_Town_touchers.2.1 0 = .ok (.aload_n 0, 1) := by decide +kernel
theorem d_Town_touchers_1 : decode m_Town_touchers.2.1 1 = .ok (.getfield 12, 3) := by decide +kernel
theorem d_Town_touchers_4 : decode m_Town_touchers.2.1 4 = .ok (.aload_n 0, 1) := by decide +kernel
theorem d_Town_touchers_5 : decode m_Town_touchers.2.1 5 = .ok (.iload_n 1, 1) := by decide +kernel
theorem d_Town_touchers_6 : decode m_Town_touchers.2.1 6 = .ok (.invokevirtual 66, 3) := by decide +kernel
theorem d_Town_touchers_9 : decode m_Town_touchers.2.1 9 = .ok (.invokevirtual 69, 3) := by decide +kernel
theorem d_Town_touchers_12 : decode m_Town_touchers.2.1 12 = .ok (.ireturn, 1) := by decide +kernel
theorem d_Town_withPartners_0 : decode m_Town_withPartners.2.1 0 = .ok (.iconst 0, 1) := by decide +kernel
theorem d_Town_withPartners_1 : decode m_Town_withPartners.2.1 1 = .ok (.istore_n 2, 1) := by decide +kernel
theorem d_Town_withPartners_2 : decode m_Town_withPartners.2.1 2 = .ok (.iconst 0, 1) := by decide +kernel
theorem d_Town_withPartners_3 : decode m_Town_withPartners.2.1 3 = .ok (.istore_n 3, 1) := by decide +kernel
theorem d_Town_withPartners_4 : decode m_Town_withPartners.2.1 4 = .ok (.iload_n 3, 1) := by decide +kernel
theorem d_Town_withPartners_5 : decode m_Town_withPartners.2.1 5 = .ok (.bipush 6, 2) := by decide +kernel
theorem d_Town_withPartners_7 : decode m_Town_withPartners.2.1 7 = .ok (.if_icmp .ge 25, 3) := by decide +kernel
theorem d_Town_withPartners_10 : decode m_Town_withPartners.2.1 10 = .ok (.iload_n 1, 1) := by decide +kernel
theorem d_Town_withPartners_11 : decode m_Town_withPartners.2.1 11 = .ok (.iload_n 3, 1) := by decide +kernel
theorem d_Town_withPartners_12 : decode m_Town_withPartners.2.1 12 = .ok (.invokestatic 54, 3) := by decide +kernel
theorem d_Town_withPartners_15 : decode m_Town_withPartners.2.1 15 = .ok (.ifCond .eq 11, 3) := by decide +kernel
theorem d_Town_withPartners_18 : decode m_Town_withPartners.2.1 18 = .ok (.iload_n 2, 1) := by decide +kernel
theorem d_Town_withPartners_19 : decode m_Town_withPartners.2.1 19 = .ok (.aload_n 0, 1) := by decide +kernel
theorem d_Town_withPartners_20 : decode m_Town_withPartners.2.1 20 = .ok (.iload_n 3, 1) := by decide +kernel
theorem d_Town_withPartners_21 : decode m_Town_withPartners.2.1 21 = .ok (.invokevirtual 58, 3) := by decide +kernel
theorem d_Town_withPartners_24 : decode m_Town_withPartners.2.1 24 = .ok (.ior, 1) := by decide +kernel
theorem d_Town_withPartners_25 : decode m_Town_withPartners.2.1 25 = .ok (.istore_n 2, 1) := by decide +kernel
theorem d_Town_withPartners_26 : decode m_Town_withPartners.2.1 26 = .ok (.iinc 3 1, 3) := by decide +kernel
theorem d_Town_withPartners_29 : decode m_Town_withPartners.2.1 29 = .ok (.goto (-25), 3) := by decide +kernel
theorem d_Town_withPartners_32 : decode m_Town_withPartners.2.1 32 = .ok (.iload_n 2, 1) := by decide +kernel
theorem d_Town_withPartners_33 : decode m_Town_withPartners.2.1 33 = .ok (.ireturn, 1) := by decide +kernel
theorem d_X_allBarred_0 : decode m_X_allBarred.2.1 0 = .ok (.iconst 0, 1) := by decide +kernel
theorem d_X_allBarred_1 : decode m_X_allBarred.2.1 1 = .ok (.istore_n 1, 1) := by decide +kernel
theorem d_X_allBarred_2 : decode m_X_allBarred.2.1 2 = .ok (.iconst 0, 1) := by decide +kernel
theorem d_X_allBarred_3 : decode m_X_allBarred.2.1 3 = .ok (.istore_n 2, 1) := by decide +kernel
theorem d_X_allBarred_4 : decode m_X_allBarred.2.1 4 = .ok (.iload_n 2, 1) := by decide +kernel
theorem d_X_allBarred_5 : decode m_X_allBarred.2.1 5 = .ok (.aload_n 0, 1) := by decide +kernel
theorem d_X_allBarred_6 : decode m_X_allBarred.2.1 6 = .ok (.getfield 70, 3) := by decide +kernel
theorem d_X_allBarred_9 : decode m_X_allBarred.2.1 9 = .ok (.if_icmp .ge 20, 3) := by decide +kernel
theorem d_X_allBarred_12 : decode m_X_allBarred.2.1 12 = .ok (.iload_n 1, 1) := by decide +kernel
theorem d_X_allBarred_13 : decode m_X_allBarred.2.1 13 = .ok (.aload_n 0, 1) := by decide +kernel
theorem d_X_allBarred_14 : decode m_X_allBarred.2.1 14 = .ok (.iload_n 2, 1) := by decide +kernel
theorem d_X_allBarred_15 : decode m_X_allBarred.2.1 15 = .ok (.invokevirtual 119, 3) := by decide +kernel
theorem d_X_allBarred_18 : decode m_X_allBarred.2.1 18 = .ok (.invokestatic 109, 3) := by decide +kernel
theorem d_X_allBarred_21 : decode m_X_allBarred.2.1 21 = .ok (.iadd, 1) := by decide +kernel
theorem d_X_allBarred_22 : decode m_X_allBarred.2.1 22 = .ok (.istore_n 1, 1) := by decide +kernel
theorem d_X_allBarred_23 : decode m_X_allBarred.2.1 23 = .ok (.iinc 2 1, 3) := by decide +kernel
theorem d_X_allBarred_26 : decode m_X_allBarred.2.1 26 = .ok (.goto (-22), 3) := by decide +kernel
theorem d_X_allBarred_29 : decode m_X_allBarred.2.1 29 = .ok (.iload_n 1, 1) := by decide +kernel
theorem d_X_allBarred_30 : decode m_X_allBarred.2.1 30 = .ok (.ireturn, 1) := by decide +kernel
theorem d_X_asTold_0 : decode m_X_asTold.2.1 0 = .ok (.iconst 0, 1) := by decide +kernel
theorem d_X_asTold_1 : decode m_X_asTold.2.1 1 = .ok (.istore_n 1, 1) := by decide +kernel
theorem d_X_asTold_2 : decode m_X_asTold.2.1 2 = .ok (.iload_n 1, 1) := by decide +kernel
theorem d_X_asTold_3 : decode m_X_asTold.2.1 3 = .ok (.aload_n 0, 1) := by decide +kernel
theorem d_X_asTold_4 : decode m_X_asTold.2.1 4 = .ok (.getfield 70, 3) := by decide +kernel
theorem d_X_asTold_7 : decode m_X_asTold.2.1 7 = .ok (.if_icmp .ge 23, 3) := by decide +kernel
theorem d_X_asTold_10 : decode m_X_asTold.2.1 10 = .ok (.aload_n 0, 1) := by decide +kernel
theorem d_X_asTold_11 : decode m_X_asTold.2.1 11 = .ok (.getfield 32, 3) := by decide +kernel
theorem d_X_asTold_14 : decode m_X_asTold.2.1 14 = .ok (.iload_n 1, 1) := by decide +kernel
theorem d_X_asTold_15 : decode m_X_asTold.2.1 15 = .ok (.aload_n 0, 1) := by decide +kernel
theorem d_X_asTold_16 : decode m_X_asTold.2.1 16 = .ok (.getfield 23, 3) := by decide +kernel
theorem d_X_asTold_19 : decode m_X_asTold.2.1 19 = .ok (.iconst 5, 1) := by decide +kernel
theorem d_X_asTold_20 : decode m_X_asTold.2.1 20 = .ok (.iload_n 1, 1) := by decide +kernel
theorem d_X_asTold_21 : decode m_X_asTold.2.1 21 = .ok (.imul, 1) := by decide +kernel
theorem d_X_asTold_22 : decode m_X_asTold.2.1 22 = .ok (.iaload, 1) := by decide +kernel
theorem d_X_asTold_23 : decode m_X_asTold.2.1 23 = .ok (.iastore, 1) := by decide +kernel
theorem d_X_asTold_24 : decode m_X_asTold.2.1 24 = .ok (.iinc 1 1, 3) := by decide +kernel
theorem d_X_asTold_27 : decode m_X_asTold.2.1 27 = .ok (.goto (-25), 3) := by decide +kernel
theorem d_X_asTold_30 : decode m_X_asTold.2.1 30 = .ok (.return_, 1) := by decide +kernel
theorem d_X_barredFrom_0 : decode m_X_barredFrom.2.1 0 = .ok (.aload_n 0, 1) := by decide +kernel
theorem d_X_barredFrom_1 : decode m_X_barredFrom.2.1 1 = .ok (.aload_n 0, 1) := by decide +kernel
theorem d_X_barredFrom_2 : decode m_X_barredFrom.2.1 2 = .ok (.iload_n 1, 1) := by decide +kernel
theorem d_X_barredFrom_3 : decode m_X_barredFrom.2.1 3 = .ok (.invokevirtual 102, 3) := by decide +kernel
theorem d_X_barredFrom_6 : decode m_X_barredFrom.2.1 6 = .ok (.invokevirtual 106, 3) := by decide +kernel
theorem d_X_barredFrom_9 : decode m_X_barredFrom.2.1 9 = .ok (.ireturn, 1) := by decide +kernel
theorem d_X_bits_0 : decode m_X_bits.2.1 0 = .ok (.iconst 0, 1) := by decide +kernel
theorem d_X_bits_1 : decode m_X_bits.2.1 1 = .ok (.istore_n 1, 1) := by decide +kernel
theorem d_X_bits_2 : decode m_X_bits.2.1 2 = .ok (.iconst 0, 1) := by decide +kernel
theorem d_X_bits_3 : decode m_X_bits.2.1 3 = .ok (.istore_n 2, 1) := by decide +kernel
theorem d_X_bits_4 : decode m_X_bits.2.1 4 = .ok (.iload_n 2, 1) := by decide +kernel
theorem d_X_bits_5 : decode m_X_bits.2.1 5 = .ok (.bipush 6, 2) := by decide +kernel
theorem d_X_bits_7 : decode m_X_bits.2.1 7 = .ok (.if_icmp .ge 17, 3) := by decide +kernel
theorem d_X_bits_10 : decode m_X_bits.2.1 10 = .ok (.iload_n 1, 1) := by decide +kernel
theorem d_X_bits_11 : decode m_X_bits.2.1 11 = .ok (.iload_n 0, 1) := by decide +kernel
theorem d_X_bits_12 : decode m_X_bits.2.1 12 = .ok (.iload_n 2, 1) := by decide +kernel
theorem d_X_bits_13 : decode m_X_bits.2.1 13 = .ok (.ishr, 1) := by decide +kernel
theorem d_X_bits_14 : decode m_X_bits.2.1 14 = .ok (.iconst 1, 1) := by decide +kernel
theorem d_X_bits_15 : decode m_X_bits.2.1 15 = .ok (.iand, 1) := by decide +kernel
theorem d_X_bits_16 : decode m_X_bits.2.1 16 = .ok (.iadd, 1) := by decide +kernel
theorem d_X_bits_17 : decode m_X_bits.2.1 17 = .ok (.istore_n 1, 1) := by decide +kernel
theorem d_X_bits_18 : decode m_X_bits.2.1 18 = .ok (.iinc 2 1, 3) := by decide +kernel
theorem d_X_bits_21 : decode m_X_bits.2.1 21 = .ok (.goto (-17), 3) := by decide +kernel
theorem d_X_bits_24 : decode m_X_bits.2.1 24 = .ok (.iload_n 1, 1) := by decide +kernel
theorem d_X_bits_25 : decode m_X_bits.2.1 25 = .ok (.ireturn, 1) := by decide +kernel
theorem d_X_book_0 : decode m_X_book.2.1 0 = .ok (.aload_n 0, 1) := by decide +kernel
theorem d_X_book_1 : decode m_X_book.2.1 1 = .ok (.invokevirtual 76, 3) := by decide +kernel
theorem d_X_book_4 : decode m_X_book.2.1 4 = .ok (.ifCond .lt 6, 3) := by decide +kernel
theorem d_X_book_7 : decode m_X_book.2.1 7 = .ok (.bipush (-5), 2) := by decide +kernel
theorem d_X_book_9 : decode m_X_book.2.1 9 = .ok (.ireturn, 1) := by decide +kernel
theorem d_X_book_10 : decode m_X_book.2.1 10 = .ok (.aload_n 0, 1) := by decide +kernel
theorem d_X_book_11 : decode m_X_book.2.1 11 = .ok (.iconst 0, 1) := by decide +kernel
theorem d_X_book_12 : decode m_X_book.2.1 12 = .ok (.putfield 70, 3) := by decide +kernel
theorem d_X_book_15 : decode m_X_book.2.1 15 = .ok (.iconst 0, 1) := by decide +kernel
theorem d_X_book_16 : decode m_X_book.2.1 16 = .ok (.istore_n 1, 1) := by decide +kernel
theorem d_X_book_17 : decode m_X_book.2.1 17 = .ok (.iload_n 1, 1) := by decide +kernel
theorem d_X_book_18 : decode m_X_book.2.1 18 = .ok (.bipush 50, 2) := by decide +kernel
theorem d_X_book_20 : decode m_X_book.2.1 20 = .ok (.if_icmp .ge 34, 3) := by decide +kernel
theorem d_X_book_23 : decode m_X_book.2.1 23 = .ok (.aload_n 0, 1) := by decide +kernel
theorem d_X_book_24 : decode m_X_book.2.1 24 = .ok (.getfield 23, 3) := by decide +kernel
theorem d_X_book_27 : decode m_X_book.2.1 27 = .ok (.iload_n 1, 1) := by decide +kernel
theorem d_X_book_28 : decode m_X_book.2.1 28 = .ok (.iload_n 1, 1) := by decide +kernel
theorem d_X_book_29 : decode m_X_book.2.1 29 = .ok (.iconst 5, 1) := by decide +kernel
theorem d_X_book_30 : decode m_X_book.2.1 30 = .ok (.irem, 1) := by decide +kernel
theorem d_X_book_31 : decode m_X_book.2.1 31 = .ok (.ifCond .eq 10, 3) := by decide +kernel
theorem d_X_book_34 : decode m_X_book.2.1 34 = .ok (.iload_n 1, 1) := by decide +kernel
theorem d_X_book_35 : decode m_X_book.2.1 35 = .ok (.iconst 5, 1) := by decide +kernel
theorem d_X_book_36 : decode m_X_book.2.1 36 = .ok (.irem, 1) := by decide +kernel
theorem d_X_book_37 : decode m_X_book.2.1 37 = .ok (.iconst 4, 1) := by decide +kernel
theorem d_X_book_38 : decode m_X_book.2.1 38 = .ok (.if_icmp .ne 7, 3) := by decide +kernel
theorem d_X_book_41 : decode m_X_book.2.1 41 = .ok (.iconst 0, 1) := by decide +kernel
theorem d_X_book_42 : decode m_X_book.2.1 42 = .ok (.goto 5, 3) := by decide +kernel
theorem d_X_book_45 : decode m_X_book.2.1 45 = .ok (.bipush (-6), 2) := by decide +kernel
theorem d_X_book_47 : decode m_X_book.2.1 47 = .ok (.iastore, 1) := by decide +kernel
theorem d_X_book_48 : decode m_X_book.2.1 48 = .ok (.iinc 1 1, 3) := by decide +kernel
theorem d_X_book_51 : decode m_X_book.2.1 51 = .ok (.goto (-34), 3) := by decide +kernel
theorem d_X_book_54 : decode m_X_book.2.1 54 = .ok (.iconst 0, 1) := by decide +kernel
theorem d_X_book_55 : decode m_X_book.2.1 55 = .ok (.istore_n 1, 1) := by decide +kernel
theorem d_X_book_56 : decode m_X_book.2.1 56 = .ok (.iload_n 1, 1) := by decide +kernel
theorem d_X_book_57 : decode m_X_book.2.1 57 = .ok (.bipush 10, 2) := by decide +kernel
theorem d_X_book_59 : decode m_X_book.2.1 59 = .ok (.if_icmp .ge 16, 3) := by decide +kernel
theorem d_X_book_62 : decode m_X_book.2.1 62 = .ok (.aload_n 0, 1) := by decide +kernel
theorem d_X_book_63 : decode m_X_book.2.1 63 = .ok (.getfield 26, 3) := by decide +kernel
theorem d_X_book_66 : decode m_X_book.2.1 66 = .ok (.iload_n 1, 1) := by decide +kernel
theorem d_X_book_67 : decode m_X_book.2.1 67 = .ok (.iconst 0, 1) := by decide +kernel
theorem d_X_book_68 : decode m_X_book.2.1 68 = .ok (.iastore, 1) := by decide +kernel
theorem d_X_book_69 : decode m_X_book.2.1 69 = .ok (.iinc 1 1, 3) := by decide +kernel
theorem d_X_book_72 : decode m_X_book.2.1 72 = .ok (.goto (-16), 3) := by decide +kernel
theorem d_X_book_75 : decode m_X_book.2.1 75 = .ok (.aload_n 0, 1) := by decide +kernel
theorem d_X_book_76 : decode m_X_book.2.1 76 = .ok (.iconst 0, 1) := by decide +kernel
theorem d_X_book_77 : decode m_X_book.2.1 77 = .ok (.putfield 80, 3) := by decide +kernel
theorem d_X_book_80 : decode m_X_book.2.1 80 = .ok (.iconst 0, 1) := by decide +kernel
theorem d_X_book_81 : decode m_X_book.2.1 81 = .ok (.istore_n 1, 1) := by decide +kernel
theorem d_X_book_82 : decode m_X_book.2.1 82 = .ok (.iconst 0, 1) := by decide +kernel
theorem d_X_book_83 : decode m_X_book.2.1 83 = .ok (.istore_n 2, 1) := by decide +kernel
theorem d_X_book_84 : decode m_X_book.2.1 84 = .ok (.iload_n 2, 1) := by decide +kernel
theorem d_X_book_85 : decode m_X_book.2.1 85 = .ok (.aload_n 0, 1) := by decide +kernel
theorem d_X_book_86 : decode m_X_book.2.1 86 = .ok (.getfield 73, 3) := by decide +kernel
theorem d_X_book_89 : decode m_X_book.2.1 89 = .ok (.if_icmp .ge 151, 3) := by decide +kernel
theorem d_X_book_92 : decode m_X_book.2.1 92 = .ok (.aload_n 0, 1) := by decide +kernel
theorem d_X_book_93 : decode m_X_book.2.1 93 = .ok (.getfield 20, 3) := by decide +kernel
theorem d_X_book_96 : decode m_X_book.2.1 96 = .ok (.iload_n 2, 1) := by decide +kernel
theorem d_X_book_97 : decode m_X_book.2.1 97 = .ok (.iaload, 1) := by decide +kernel
theorem d_X_book_98 : decode m_X_book.2.1 98 = .ok (.istore_n 3, 1) := by decide +kernel
theorem d_X_book_99 : decode m_X_book.2.1 99 = .ok (.iconst 5, 1) := by decide +kernel
theorem d_X_book_100 : decode m_X_book.2.1 100 = .ok (.aload_n 0, 1) := by decide +kernel
theorem d_X_book_101 : decode m_X_book.2.1 101 = .ok (.getfield 70, 3) := by decide +kernel
theorem d_X_book_104 : decode m_X_book.2.1 104 = .ok (.imul, 1) := by decide +kernel
theorem d_X_book_105 : decode m_X_book.2.1 105 = .ok (.istore 4, 2) := by decide +kernel
theorem d_X_book_107 : decode m_X_book.2.1 107 = .ok (.iload_n 3, 1) := by decide +kernel
theorem d_X_book_108 : decode m_X_book.2.1 108 = .ok (.bipush 59, 2) := by decide +kernel
theorem d_X_book_110 : decode m_X_book.2.1 110 = .ok (.if_icmp .ne 16, 3) := by decide +kernel
theorem d_X_book_113 : decode m_X_book.2.1 113 = .ok (.aload_n 0, 1) := by decide +kernel
theorem d_X_book_114 : decode m_X_book.2.1 114 = .ok (.dup, 1) := by decide +kernel
theorem d_X_book_115 : decode m_X_book.2.1 115 = .ok (.getfield 70, 3) := by decide +kernel
theorem d_X_book_118 : decode m_X_book.2.1 118 = .ok (.iconst 1, 1) := by decide +kernel
theorem d_X_book_119 : decode m_X_book.2.1 119 = .ok (.iadd, 1) := by decide +kernel
theorem d_X_book_120 : decode m_X_book.2.1 120 = .ok (.putfield 70, 3) := by decide +kernel
theorem d_X_book_123 : decode m_X_book.2.1 123 = .ok (.goto 99, 3) := by decide +kernel
theorem d_X_book_126 : decode m_X_book.2.1 126 = .ok (.iload_n 3, 1) := by decide +kernel
theorem d_X_book_127 : decode m_X_book.2.1 127 = .ok (.bipush 63, 2) := by decide +kernel
theorem d_X_book_129 : decode m_X_book.2.1 129 = .ok (.if_icmp .ne 16, 3) := by decide +kernel
theorem d_X_book_132 : decode m_X_book.2.1 132 = .ok (.aload_n 0, 1) := by decide +kernel
theorem d_X_book_133 : decode m_X_book.2.1 133 = .ok (.getfield 23, 3) := by decide +kernel
theorem d_X_book_136 : decode m_X_book.2.1 136 = .ok (.iload 4, 2) := by decide +kernel
theorem d_X_book_138 : decode m_X_book.2.1 138 = .ok (.iconst 4, 1) := by decide +kernel
theorem d_X_book_139 : decode m_X_book.2.1 139 = .ok (.iadd, 1) := by decide +kernel
theorem d_X_book_140 : decode m_X_book.2.1 140 = .ok (.iconst 1, 1) := by decide +kernel
theorem d_X_book_141 : decode m_X_book.2.1 141 = .ok (.iastore, 1) := by decide +kernel
theorem d_X_book_142 : decode m_X_book.2.1 142 = .ok (.goto 80, 3) := by decide +kernel
theorem d_X_book_145 : decode m_X_book.2.1 145 = .ok (.iload_n 3, 1) := by decide +kernel
theorem d_X_book_146 : decode m_X_book.2.1 146 = .ok (.bipush 65, 2) := by decide +kernel
theorem d_X_book_148 : decode m_X_book.2.1 148 = .ok (.bipush 70, 2) := by decide +kernel
theorem d_X_book_150 : decode m_X_book.2.1 150 = .ok (.invokestatic 66, 3) := by decide +kernel
theorem d_X_book_153 : decode m_X_book.2.1 153 = .ok (.ifCond .eq 22, 3) := by decide +kernel
theorem d_X_book_156 : decode m_X_book.2.1 156 = .ok (.aload_n 0, 1) := by decide +kernel
theorem d_X_book_157 : decode m_X_book.2.1 157 = .ok (.getfield 23, 3) := by decide +kernel
theorem d_X_book_160 : decode m_X_book.2.1 160 = .ok (.iload 4, 2) := by decide +kernel
theorem d_X_book_162 : decode m_X_book.2.1 162 = .ok (.dup2, 1) := by decide +kernel
theorem d_X_book_163 : decode m_X_book.2.1 163 = .ok (.iaload, 1) := by decide +kernel
theorem d_X_book_164 : decode m_X_book.2.1 164 = .ok (.iconst 1, 1) := by decide +kernel
theorem d_X_book_165 : decode m_X_book.2.1 165 = .ok (.iload_n 3, 1) := by decide +kernel
theorem d_X_book_166 : decode m_X_book.2.1 166 = .ok (.bipush 65, 2) := by decide +kernel
theorem d_X_book_168 : decode m_X_book.2.1 168 = .ok (.isub, 1) := by decide +kernel
theorem d_X_book_169 : decode m_X_book.2.1 169 = .ok (.ishl, 1) := by decide +kernel
theorem d_X_book_170 : decode m_X_book.2.1 170 = .ok (.ior, 1) := by decide +kernel
theorem d_X_book_171 : decode m_X_book.2.1 171 = .ok (.iastore, 1) := by decide +kernel
theorem d_X_book_172 : decode m_X_book.2.1 172 = .ok (.goto 50, 3) := by decide +kernel
theorem d_X_book_175 : decode m_X_book.2.1 175 = .ok (.iload_n 3, 1) := by decide +kernel
theorem d_X_book_176 : decode m_X_book.2.1 176 = .ok (.bipush 43, 2) := by decide +kernel
theorem d_X_book_178 : decode m_X_book.2.1 178 = .ok (.if_icmp .eq 44, 3) := by decide +kernel
theorem d_X_book_181 : decode m_X_book.2.1 181 = .ok (.iload_n 1, 1) := by decide +kernel
theorem d_X_book_182 : decode m_X_book.2.1 182 = .ok (.ifCond .eq 7, 3) := by decide +kernel
theorem d_X_book_185 : decode m_X_book.2.1 185 = .ok (.iconst 3, 1) := by decide +kernel
theorem d_X_book_186 : decode m_X_book.2.1 186 = .ok (.goto 20, 3) := by decide +kernel
theorem d_X_book_189 : decode m_X_book.2.1 189 = .ok (.aload_n 0, 1) := by decide +kernel
theorem d_X_book_190 : decode m_X_book.2.1 190 = .ok (.getfield 23, 3) := by decide +kernel
theorem d_X_book_193 : decode m_X_book.2.1 193 = .ok (.iload 4, 2) := by decide +kernel
theorem d_X_book_195 : decode m_X_book.2.1 195 = .ok (.iconst 1, 1) := by decide +kernel
theorem d_X_book_196 : decode m_X_book.2.1 196 = .ok (.iadd, 1) := by decide +kernel
theorem d_X_book_197 : decode m_X_book.2.1 197 = .ok (.iaload, 1) := by decide +kernel
theorem d_X_book_198 : decode m_X_book.2.1 198 = .ok (.ifCond .ge 7, 3) := by decide +kernel
theorem d_X_book_201 : decode m_X_book.2.1 201 = .ok (.iconst 1, 1) := by decide +kernel
theorem d_X_book_202 : decode m_X_book.2.1 202 = .ok (.goto 4, 3) := by decide +kernel
theorem d_X_book_205 : decode m_X_book.2.1 205 = .ok (.iconst 2, 1) := by decide +kernel
theorem d_X_book_206 : decode m_X_book.2.1 206 = .ok (.istore 5, 2) := by decide +kernel
theorem d_X_book_208 : decode m_X_book.2.1 208 = .ok (.aload_n 0, 1) := by decide +kernel
theorem d_X_book_209 : decode m_X_book.2.1 209 = .ok (.getfield 23, 3) := by decide +kernel
theorem d_X_book_212 : decode m_X_book.2.1 212 = .ok (.iload 4, 2) := by decide +kernel
theorem d_X_book_214 : decode m_X_book.2.1 214 = .ok (.iload 5, 2) := by decide +kernel
theorem d_X_book_216 : decode m_X_book.2.1 216 = .ok (.iadd, 1) := by decide +kernel
theorem d_X_book_217 : decode m_X_book.2.1 217 = .ok (.iload_n 3, 1) := by decide +kernel
theorem d_X_book_218 : decode m_X_book.2.1 218 = .ok (.bipush 97, 2) := by decide +kernel
theorem d_X_book_220 : decode m_X_book.2.1 220 = .ok (.isub, 1) := by decide +kernel
theorem d_X_book_221 : decode m_X_book.2.1 221 = .ok (.iastore, 1) := by decide +kernel
theorem d_X_book_222 : decode m_X_book.2.1 222 = .ok (.iload_n 3, 1) := by decide +kernel
theorem d_X_book_223 : decode m_X_book.2.1 223 = .ok (.bipush 43, 2) := by decide +kernel
theorem d_X_book_225 : decode m_X_book.2.1 225 = .ok (.if_icmp .ne 7, 3) := by decide +kernel
theorem d_X_book_228 : decode m_X_book.2.1 228 = .ok (.iconst 1, 1) := by decide +kernel
theorem d_X_book_229 : decode m_X_book.2.1 229 = .ok (.goto 4, 3) := by decide +kernel
theorem d_X_book_232 : decode m_X_book.2.1 232 = .ok (.iconst 0, 1) := by decide +kernel
theorem d_X_book_233 : decode m_X_book.2.1 233 = .ok (.istore_n 1, 1) := by decide +kernel
theorem d_X_book_234 : decode m_X_book.2.1 234 = .ok (.iinc 2 1, 3) := by decide +kernel
theorem d_X_book_237 : decode m_X_book.2.1 237 = .ok (.goto (-153), 3) := by decide +kernel
theorem d_X_book_240 : decode m_X_book.2.1 240 = .ok (.aload_n 0, 1) := by decide +kernel
theorem d_X_book_241 : decode m_X_book.2.1 241 = .ok (.iconst 0, 1) := by decide +kernel
theorem d_X_book_242 : decode m_X_book.2.1 242 = .ok (.putfield 73, 3) := by decide +kernel
theorem d_X_book_245 : decode m_X_book.2.1 245 = .ok (.aload_n 0, 1) := by decide +kernel
theorem d_X_book_246 : decode m_X_book.2.1 246 = .ok (.getfield 70, 3) := by decide +kernel
theorem d_X_book_249 : decode m_X_book.2.1 249 = .ok (.ireturn, 1) := by decide +kernel
theorem d_X_byTenths_0 : decode m_X_byTenths.2.1 0 = .ok (.iconst 0, 1) := by decide +kernel
theorem d_X_byTenths_1 : decode m_X_byTenths.2.1 1 = .ok (.istore_n 2, 1) := by decide +kernel
theorem d_X_byTenths_2 : decode m_X_byTenths.2.1 2 = .ok (.iconst 0, 1) := by decide +kernel
theorem d_X_byTenths_3 : decode m_X_byTenths.2.1 3 = .ok (.istore_n 3, 1) := by decide +kernel
theorem d_X_byTenths_4 : decode m_X_byTenths.2.1 4 = .ok (.iload_n 3, 1) := by decide +kernel
theorem d_X_byTenths_5 : decode m_X_byTenths.2.1 5 = .ok (.bipush 6, 2) := by decide +kernel
theorem d_X_byTenths_7 : decode m_X_byTenths.2.1 7 = .ok (.if_icmp .ge 48, 3) := by decide +kernel
theorem d_X_byTenths_10 : decode m_X_byTenths.2.1 10 = .ok (.aload_n 0, 1) := by decide +kernel
theorem d_X_byTenths_11 : decode m_X_byTenths.2.1 11 = .ok (.iload_n 1, 1) := by decide +kernel
theorem d_X_byTenths_12 : decode m_X_byTenths.2.1 12 = .ok (.iload_n 3, 1) := by decide +kernel
theorem d_X_byTenths_13 : decode m_X_byTenths.2.1 13 = .ok (.invokevirtual 112, 3) := by decide +kernel
theorem d_X_byTenths_16 : decode m_X_byTenths.2.1 16 = .ok (.istore 4, 2) := by decide +kernel
theorem d_X_byTenths_18 : decode m_X_byTenths.2.1 18 = .ok (.iload_n 2, 1) := by decide +kernel
theorem d_X_byTenths_19 : decode m_X_byTenths.2.1 19 = .ok (.iload 4, 2) := by decide +kernel
theorem d_X_byTenths_21 : decode m_X_byTenths.2.1 21 = .ok (.ifCond .le 25, 3) := by decide +kernel
theorem d_X_byTenths_24 : decode m_X_byTenths.2.1 24 = .ok (.bipush 10, 2) := by decide +kernel
theorem d_X_byTenths_26 : decode m_X_byTenths.2.1 26 = .ok (.iload 4, 2) := by decide +kernel
theorem d_X_byTenths_28 : decode m_X_byTenths.2.1 28 = .ok (.imul, 1) := by decide +kernel
theorem d_X_byTenths_29 : decode m_X_byTenths.2.1 29 = .ok (.aload_n 0, 1) := by decide +kernel
theorem d_X_byTenths_30 : decode m_X_byTenths.2.1 30 = .ok (.getfield 13, 3) := by decide +kernel
theorem d_X_byTenths_33 : decode m_X_byTenths.2.1 33 = .ok (.sipush 3072, 3) := by decide +kernel
theorem d_X_byTenths_36 : decode m_X_byTenths.2.1 36 = .ok (.imul, 1) := by decide +kernel
theorem d_X_byTenths_37 : decode m_X_byTenths.2.1 37 = .ok (.if_icmp .lt 9, 3) := by decide +kernel
theorem d_X_byTenths_40 : decode m_X_byTenths.2.1 40 = .ok (.iconst 1, 1) := by decide +kernel
theorem d_X_byTenths_41 : decode m_X_byTenths.2.1 41 = .ok (.iload_n 3, 1) := by decide +kernel
theorem d_X_byTenths_42 : decode m_X_byTenths.2.1 42 = .ok (.ishl, 1) := by decide +kernel
theorem d_X_byTenths_43 : decode m_X_byTenths.2.1 43 = .ok (.goto 4, 3) := by decide +kernel
theorem d_X_byTenths_46 : decode m_X_byTenths.2.1 46 = .ok (.iconst 0, 1) := by decide +kernel
theorem d_X_byTenths_47 : decode m_X_byTenths.2.1 47 = .ok (.ior, 1) := by decide +kernel
theorem d_X_byTenths_48 : decode m_X_byTenths.2.1 48 = .ok (.istore_n 2, 1) := by decide +kernel
theorem d_X_byTenths_49 : decode m_X_byTenths.2.1 49 = .ok (.iinc 3 1, 3) := by decide +kernel
theorem d_X_byTenths_52 : decode m_X_byTenths.2.1 52 = .ok (.goto (-48), 3) := by decide +kernel
theorem d_X_byTenths_55 : decode m_X_byTenths.2.1 55 = .ok (.aload_n 0, 1) := by decide +kernel
theorem d_X_byTenths_56 : decode m_X_byTenths.2.1 56 = .ok (.iload_n 2, 1) := by decide +kernel
theorem d_X_byTenths_57 : decode m_X_byTenths.2.1 57 = .ok (.invokevirtual 106, 3) := by decide +kernel
theorem d_X_byTenths_60 : decode m_X_byTenths.2.1 60 = .ok (.ireturn, 1) := by decide +kernel
theorem d_X_codes_0 : decode m_X_codes.2.1 0 = .ok (.iconst 1, 1) := by decide +kernel
theorem d_X_codes_1 : decode m_X_codes.2.1 1 = .ok (.istore_n 1, 1) := by decide +kernel
theorem d_X_codes_2 : decode m_X_codes.2.1 2 = .ok (.iconst 0, 1) := by decide +kernel
theorem d_X_codes_3 : decode m_X_codes.2.1 3 = .ok (.istore_n 2, 1) := by decide +kernel
theorem d_X_codes_4 : decode m_X_codes.2.1 4 = .ok (.iload_n 2, 1) := by decide +kernel
theorem d_X_codes_5 : decode m_X_codes.2.1 5 = .ok (.aload_n 0, 1) := by decide +kernel
theorem d_X_codes_6 : decode m_X_codes.2.1 6 = .ok (.invokevirtual 135, 3) := by decide +kernel
theorem d_X_codes_9 : decode m_X_codes.2.1 9 = .ok (.if_icmp .ge 14, 3) := by decide +kernel
theorem d_X_codes_12 : decode m_X_codes.2.1 12 = .ok (.iload_n 1, 1) := by decide +kernel
theorem d_X_codes_13 : decode m_X_codes.2.1 13 = .ok (.bipush 6, 2) := by decide +kernel
theorem d_X_codes_15 : decode m_X_codes.2.1 15 = .ok (.imul, 1) := by decide +kernel
theorem d_X_codes_16 : decode m_X_codes.2.1 16 = .ok (.istore_n 1, 1) := by decide +kernel
theorem d_X_codes_17 : decode m_X_codes.2.1 17 = .ok (.iinc 2 1, 3) := by decide +kernel
theorem d_X_codes_20 : decode m_X_codes.2.1 20 = .ok (.goto (-16), 3) := by decide +kernel
theorem d_X_codes_23 : decode m_X_codes.2.1 23 = .ok (.iload_n 1, 1) := by decide +kernel
theorem d_X_codes_24 : decode m_X_codes.2.1 24 = .ok (.ireturn, 1) := by decide +kernel
theorem d_X_days_0 : decode m_X_days.2.1 0 = .ok (.iload_n 3, 1) := by decide +kernel
theorem d_X_days_1 : decode m_X_days.2.1 1 = .ok (.iconst (-1), 1) := by decide +kernel
theorem d_X_days_2 : decode m_X_days.2.1 2 = .ok (.if_icmp .eq 13, 3) := by decide +kernel
theorem d_X_days_5 : decode m_X_days.2.1 5 = .ok (.aload_n 0, 1) := by decide +kernel
theorem d_X_days_6 : decode m_X_days.2.1 6 = .ok (.iload_n 3, 1) := by decide +kernel
theorem d_X_days_7 : decode m_X_days.2.1 7 = .ok (.invokevirtual 83, 3) := by decide +kernel
theorem d_X_days_10 : decode m_X_days.2.1 10 = .ok (.ifCond .ne 5, 3) := by decide +kernel
theorem d_X_days_13 : decode m_X_days.2.1 13 = .ok (.iconst (-1), 1) := by decide +kernel
theorem d_X_days_14 : decode m_X_days.2.1 14 = .ok (.ireturn, 1) := by decide +kernel
theorem d_X_days_15 : decode m_X_days.2.1 15 = .ok (.iload_n 1, 1) := by decide +kernel
theorem d_X_days_16 : decode m_X_days.2.1 16 = .ok (.iconst 0, 1) := by decide +kernel
theorem d_X_days_17 : decode m_X_days.2.1 17 = .ok (.sipush 9999, 3) := by decide +kernel
theorem d_X_days_20 : decode m_X_days.2.1 20 = .ok (.invokestatic 66, 3) := by decide +kernel
theorem d_X_days_23 : decode m_X_days.2.1 23 = .ok (.ifCond .eq 13, 3) := by decide +kernel
theorem d_X_days_26 : decode m_X_days.2.1 26 = .ok (.iload_n 2, 1) := by decide +kernel
theorem d_X_days_27 : decode m_X_days.2.1 27 = .ok (.iconst 1, 1) := by decide +kernel
theorem d_X_days_28 : decode m_X_days.2.1 28 = .ok (.bipush 99, 2) := by decide +kernel
theorem d_X_days_30 : decode m_X_days.2.1 30 = .ok (.invokestatic 66, 3) := by decide +kernel
theorem d_X_days_33 : decode m_X_days.2.1 33 = .ok (.ifCond .ne 6, 3) := by decide +kernel
theorem d_X_days_36 : decode m_X_days.2.1 36 = .ok (.bipush (-2), 2) := by decide +kernel
theorem d_X_days_38 : decode m_X_days.2.1 38 = .ok (.ireturn, 1) := by decide +kernel
theorem d_X_days_39 : decode m_X_days.2.1 39 = .ok (.aload_n 0, 1) := by decide +kernel
theorem d_X_days_40 : decode m_X_days.2.1 40 = .ok (.invokevirtual 147, 3) := by decide +kernel
theorem d_X_days_43 : decode m_X_days.2.1 43 = .ok (.iconst 0, 1) := by decide +kernel
theorem d_X_days_44 : decode m_X_days.2.1 44 = .ok (.istore 4, 2) := by decide +kernel
theorem d_X_days_46 : decode m_X_days.2.1 46 = .ok (.iload 4, 2) := by decide +kernel
theorem d_X_days_48 : decode m_X_days.2.1 48 = .ok (.aload_n 0, 1) := by decide +kernel
theorem d_X_days_49 : decode m_X_days.2.1 49 = .ok (.getfield 70, 3) := by decide +kernel
theorem d_X_days_52 : decode m_X_days.2.1 52 = .ok (.if_icmp .ge 23, 3) := by decide +kernel
theorem d_X_days_55 : decode m_X_days.2.1 55 = .ok (.aload_n 0, 1) := by decide +kernel
theorem d_X_days_56 : decode m_X_days.2.1 56 = .ok (.getfield 50, 3) := by decide +kernel
theorem d_X_days_59 : decode m_X_days.2.1 59 = .ok (.iload 4, 2) := by decide +kernel
theorem d_X_days_61 : decode m_X_days.2.1 61 = .ok (.aload_n 0, 1) := by decide +kernel
theorem d_X_days_62 : decode m_X_days.2.1 62 = .ok (.getfield 26, 3) := by decide +kernel
theorem d_X_days_65 : decode m_X_days.2.1 65 = .ok (.iload 4, 2) := by decide +kernel
theorem d_X_days_67 : decode m_X_days.2.1 67 = .ok (.iaload, 1) := by decide +kernel
theorem d_X_days_68 : decode m_X_days.2.1 68 = .ok (.iastore, 1) := by decide +kernel
theorem d_X_days_69 : decode m_X_days.2.1 69 = .ok (.iinc 4 1, 3) := by decide +kernel
theorem d_X_days_72 : decode m_X_days.2.1 72 = .ok (.goto (-26), 3) := by decide +kernel
theorem d_X_days_75 : decode m_X_days.2.1 75 = .ok (.iload_n 1, 1) := by decide +kernel
theorem d_X_days_76 : decode m_X_days.2.1 76 = .ok (.istore 4, 2) := by decide +kernel
theorem d_X_days_78 : decode m_X_days.2.1 78 = .ok (.iconst 0, 1) := by decide +kernel
theorem d_X_days_79 : decode m_X_days.2.1 79 = .ok (.istore 5, 2) := by decide +kernel
theorem d_X_days_81 : decode m_X_days.2.1 81 = .ok (.iconst 0, 1) := by decide +kernel
theorem d_X_days_82 : decode m_X_days.2.1 82 = .ok (.istore 6, 2) := by decide +kernel
theorem d_X_days_84 : decode m_X_days.2.1 84 = .ok (.iload 6, 2) := by decide +kernel
theorem d_X_days_86 : decode m_X_days.2.1 86 = .ok (.iload_n 2, 1) := by decide +kernel
theorem d_X_days_87 : decode m_X_days.2.1 87 = .ok (.if_icmp .ge 105, 3) := by decide +kernel
theorem d_X_days_90 : decode m_X_days.2.1 90 = .ok (.bipush 75, 2) := by decide +kernel
theorem d_X_days_92 : decode m_X_days.2.1 92 = .ok (.iload 4, 2) := by decide +kernel
theorem d_X_days_94 : decode m_X_days.2.1 94 = .ok (.imul, 1) := by decide +kernel
theorem d_X_days_95 : decode m_X_days.2.1 95 = .ok (.bipush 74, 2) := by decide +kernel
theorem d_X_days_97 : decode m_X_days.2.1 97 = .ok (.iadd, 1) := by decide +kernel
theorem d_X_days_98 : decode m_X_days.2.1 98 = .ok (.ldc 160, 2) := by decide +kernel
theorem d_X_days_100 : decode m_X_days.2.1 100 = .ok (.irem, 1) := by decide +kernel
theorem d_X_days_101 : decode m_X_days.2.1 101 = .ok (.istore 4, 2) := by decide +kernel
theorem d_X_days_103 : decode m_X_days.2.1 103 = .ok (.iload 4, 2) := by decide +kernel
theorem d_X_days_105 : decode m_X_days.2.1 105 = .ok (.bipush 6, 2) := by decide +kernel
theorem d_X_days_107 : decode m_X_days.2.1 107 = .ok (.irem, 1) := by decide +kernel
theorem d_X_days_108 : decode m_X_days.2.1 108 = .ok (.istore 7, 2) := by decide +kernel
theorem d_X_days_110 : decode m_X_days.2.1 110 = .ok (.bipush (-6), 2) := by decide +kernel
theorem d_X_days_112 : decode m_X_days.2.1 112 = .ok (.istore 8, 2) := by decide +kernel
theorem d_X_days_114 : decode m_X_days.2.1 114 = .ok (.aload_n 0, 1) := by decide +kernel
theorem d_X_days_115 : decode m_X_days.2.1 115 = .ok (.getfield 70, 3) := by decide +kernel
theorem d_X_days_118 : decode m_X_days.2.1 118 = .ok (.iconst 1, 1) := by decide +kernel
theorem d_X_days_119 : decode m_X_days.2.1 119 = .ok (.isub, 1) := by decide +kernel
theorem d_X_days_120 : decode m_X_days.2.1 120 = .ok (.istore 9, 2) := by decide +kernel
theorem d_X_days_122 : decode m_X_days.2.1 122 = .ok (.iload 9, 2) := by decide +kernel
theorem d_X_days_124 : decode m_X_days.2.1 124 = .ok (.ifCond .lt 43, 3) := by decide +kernel
theorem d_X_days_127 : decode m_X_days.2.1 127 = .ok (.aload_n 0, 1) := by decide +kernel
theorem d_X_days_128 : decode m_X_days.2.1 128 = .ok (.getfield 41, 3) := by decide +kernel
theorem d_X_days_131 : decode m_X_days.2.1 131 = .ok (.iload 7, 2) := by decide +kernel
theorem d_X_days_133 : decode m_X_days.2.1 133 = .ok (.iaload, 1) := by decide +kernel
theorem d_X_days_134 : decode m_X_days.2.1 134 = .ok (.iload 9, 2) := by decide +kernel
theorem d_X_days_136 : decode m_X_days.2.1 136 = .ok (.invokestatic 98, 3) := by decide +kernel
theorem d_X_days_139 : decode m_X_days.2.1 139 = .ok (.ifCond .eq 18, 3) := by decide +kernel
theorem d_X_days_142 : decode m_X_days.2.1 142 = .ok (.aload_n 0, 1) := by decide +kernel
theorem d_X_days_143 : decode m_X_days.2.1 143 = .ok (.getfield 50, 3) := by decide +kernel
theorem d_X_days_146 : decode m_X_days.2.1 146 = .ok (.iload 9, 2) := by decide +kernel
theorem d_X_days_148 : decode m_X_days.2.1 148 = .ok (.iaload, 1) := by decide +kernel
theorem d_X_days_149 : decode m_X_days.2.1 149 = .ok (.ifCond .le 8, 3) := by decide +kernel
theorem d_X_days_152 : decode m_X_days.2.1 152 = .ok (.iload 9, 2) := by decide +kernel
theorem d_X_days_154 : decode m_X_days.2.1 154 = .ok (.goto 5, 3) := by decide +kernel
theorem d_X_days_157 : decode m_X_days.2.1 157 = .ok (.iload 8, 2) := by decide +kernel
theorem d_X_days_159 : decode m_X_days.2.1 159 = .ok (.istore 8, 2) := by decide +kernel
theorem d_X_days_161 : decode m_X_days.2.1 161 = .ok (.iinc 9 (-1), 3) := by decide +kernel
theorem d_X_days_164 : decode m_X_days.2.1 164 = .ok (.goto (-42), 3) := by decide +kernel
theorem d_X_days_167 : decode m_X_days.2.1 167 = .ok (.iload 8, 2) := by decide +kernel
theorem d_X_days_169 : decode m_X_days.2.1 169 = .ok (.ifCond .lt 17, 3) := by decide +kernel
theorem d_X_days_172 : decode m_X_days.2.1 172 = .ok (.aload_n 0, 1) := by decide +kernel
theorem d_X_days_173 : decode m_X_days.2.1 173 = .ok (.getfield 50, 3) := by decide +kernel
theorem d_X_days_176 : decode m_X_days.2.1 176 = .ok (.iload 8, 2) := by decide +kernel
theorem d_X_days_178 : decode m_X_days.2.1 178 = .ok (.dup2, 1) := by decide +kernel
theorem d_X_days_179 : decode m_X_days.2.1 179 = .ok (.iaload, 1) := by decide +kernel
theorem d_X_days_180 : decode m_X_days.2.1 180 = .ok (.iconst 1, 1) := by decide +kernel
theorem d_X_days_181 : decode m_X_days.2.1 181 = .ok (.isub, 1) := by decide +kernel
theorem d_X_days_182 : decode m_X_days.2.1 182 = .ok (.iastore, 1) := by decide +kernel
theorem d_X_days_183 : decode m_X_days.2.1 183 = .ok (.iinc 5 1, 3) := by decide +kernel
theorem d_X_days_186 : decode m_X_days.2.1 186 = .ok (.iinc 6 1, 3) := by decide +kernel
theorem d_X_days_189 : decode m_X_days.2.1 189 = .ok (.goto (-105), 3) := by decide +kernel
theorem d_X_days_192 : decode m_X_days.2.1 192 = .ok (.iload_n 3, 1) := by decide +kernel
theorem d_X_days_193 : decode m_X_days.2.1 193 = .ok (.iconst (-1), 1) := by decide +kernel
theorem d_X_days_194 : decode m_X_days.2.1 194 = .ok (.if_icmp .ne 8, 3) := by decide +kernel
theorem d_X_days_197 : decode m_X_days.2.1 197 = .ok (.iload 5, 2) := by decide +kernel
theorem d_X_days_199 : decode m_X_days.2.1 199 = .ok (.goto 9, 3) := by decide +kernel
theorem d_X_days_202 : decode m_X_days.2.1 202 = .ok (.aload_n 0, 1) := by decide +kernel
theorem d_X_days_203 : decode m_X_days.2.1 203 = .ok (.getfield 50, 3) := by decide +kernel
theorem d_X_days_206 : decode m_X_days.2.1 206 = .ok (.iload_n 3, 1) := by decide +kernel
theorem d_X_days_207 : decode m_X_days.2.1 207 = .ok (.iaload, 1) := by decide +kernel
theorem d_X_days_208 : decode m_X_days.2.1 208 = .ok (.ireturn, 1) := by decide +kernel
theorem d_X_fault_0 : decode m_X_fault.2.1 0 = .ok (.aload_n 0, 1) := by decide +kernel
theorem d_X_fault_1 : decode m_X_fault.2.1 1 = .ok (.invokevirtual 76, 3) := by decide +kernel
theorem d_X_fault_4 : decode m_X_fault.2.1 4 = .ok (.ireturn, 1) := by decide +kernel
theorem d_X_faultOf_0 : decode m_X_faultOf.2.1 0 = .ok (.iconst 0, 1) := by decide +kernel
theorem d_X_faultOf_1 : decode m_X_faultOf.2.1 1 = .ok (.istore_n 1, 1) := by decide +kernel
theorem d_X_faultOf_2 : decode m_X_faultOf.2.1 2 = .ok (.iconst 0, 1) := by decide +kernel
theorem d_X_faultOf_3 : decode m_X_faultOf.2.1 3 = .ok (.istore_n 2, 1) := by decide +kernel
theorem d_X_faultOf_4 : decode m_X_faultOf.2.1 4 = .ok (.bipush (-6), 2) := by decide +kernel
theorem d_X_faultOf_6 : decode m_X_faultOf.2.1 6 = .ok (.istore_n 3, 1) := by decide +kernel
theorem d_X_faultOf_7 : decode m_X_faultOf.2.1 7 = .ok (.iconst 0, 1) := by decide +kernel
theorem d_X_faultOf_8 : decode m_X_faultOf.2.1 8 = .ok (.istore 4, 2) := by decide +kernel
theorem d_X_faultOf_10 : decode m_X_faultOf.2.1 10 = .ok (.iconst 0, 1) := by decide +kernel
theorem d_X_faultOf_11 : decode m_X_faultOf.2.1 11 = .ok (.istore 5, 2) := by decide +kernel
theorem d_X_faultOf_13 : decode m_X_faultOf.2.1 13 = .ok (.iconst 0, 1) := by decide +kernel
theorem d_X_faultOf_14 : decode m_X_faultOf.2.1 14 = .ok (.istore 6, 2) := by decide +kernel
theorem d_X_faultOf_16 : decode m_X_faultOf.2.1 16 = .ok (.iload 6, 2) := by decide +kernel
theorem d_X_faultOf_18 : decode m_X_faultOf.2.1 18 = .ok (.aload_n 0, 1) := by decide +kernel
theorem d_X_faultOf_19 : decode m_X_faultOf.2.1 19 = .ok (.getfield 73, 3) := by decide +kernel
theorem d_X_faultOf_22 : decode m_X_faultOf.2.1 22 = .ok (.if_icmp .ge 246, 3) := by decide +kernel
theorem d_X_faultOf_25 : decode m_X_faultOf.2.1 25 = .ok (.aload_n 0, 1) := by decide +kernel
theorem d_X_faultOf_26 : decode m_X_faultOf.2.1 26 = .ok (.getfield 20, 3) := by decide +kernel
theorem d_X_faultOf_29 : decode m_X_faultOf.2.1 29 = .ok (.iload 6, 2) := by decide +kernel
theorem d_X_faultOf_31 : decode m_X_faultOf.2.1 31 = .ok (.iaload, 1) := by decide +kernel
theorem d_X_faultOf_32 : decode m_X_faultOf.2.1 32 = .ok (.istore 7, 2) := by decide +kernel
theorem d_X_faultOf_34 : decode m_X_faultOf.2.1 34 = .ok (.iload 7, 2) := by decide +kernel
theorem d_X_faultOf_36 : decode m_X_faultOf.2.1 36 = .ok (.bipush 97, 2) := by decide +kernel
theorem d_X_faultOf_38 : decode m_X_faultOf.2.1 38 = .ok (.isub, 1) := by decide +kernel
theorem d_X_faultOf_39 : decode m_X_faultOf.2.1 39 = .ok (.istore 8, 2) := by decide +kernel
theorem d_X_faultOf_41 : decode m_X_faultOf.2.1 41 = .ok (.iload 8, 2) := by decide +kernel
theorem d_X_faultOf_43 : decode m_X_faultOf.2.1 43 = .ok (.iconst 0, 1) := by decide +kernel
theorem d_X_faultOf_44 : decode m_X_faultOf.2.1 44 = .ok (.iload_n 2, 1) := by decide +kernel
theorem d_X_faultOf_45 : decode m_X_faultOf.2.1 45 = .ok (.iconst 1, 1) := by decide +kernel
theorem d_X_faultOf_46 : decode m_X_faultOf.2.1 46 = .ok (.isub, 1) := by decide +kernel
theorem d_X_faultOf_47 : decode m_X_faultOf.2.1 47 = .ok (.invokestatic 66, 3) := by decide +kernel
theorem d_X_faultOf_50 : decode m_X_faultOf.2.1 50 = .ok (.istore 9, 2) := by decide +kernel
theorem d_X_faultOf_52 : decode m_X_faultOf.2.1 52 = .ok (.iload_n 2, 1) := by decide +kernel
theorem d_X_faultOf_53 : decode m_X_faultOf.2.1 53 = .ok (.bipush 10, 2) := by decide +kernel
theorem d_X_faultOf_55 : decode m_X_faultOf.2.1 55 = .ok (.if_icmp .ne 9, 3) := by decide +kernel
theorem d_X_faultOf_58 : decode m_X_faultOf.2.1 58 = .ok (.iconst 0, 1) := by decide +kernel
theorem d_X_faultOf_59 : decode m_X_faultOf.2.1 59 = .ok (.istore 10, 2) := by decide +kernel
theorem d_X_faultOf_61 : decode m_X_faultOf.2.1 61 = .ok (.goto 193, 3) := by decide +kernel
theorem d_X_faultOf_64 : decode m_X_faultOf.2.1 64 = .ok (.iload_n 1, 1) := by decide +kernel
theorem d_X_faultOf_65 : decode m_X_faultOf.2.1 65 = .ok (.iconst 2, 1) := by decide +kernel
theorem d_X_faultOf_66 : decode m_X_faultOf.2.1 66 = .ok (.if_icmp .ge 30, 3) := by decide +kernel
theorem d_X_faultOf_69 : decode m_X_faultOf.2.1 69 = .ok (.iload 9, 2) := by decide +kernel
theorem d_X_faultOf_71 : decode m_X_faultOf.2.1 71 = .ok (.ifCond .eq 25, 3) := by decide +kernel
theorem d_X_faultOf_74 : decode m_X_faultOf.2.1 74 = .ok (.iload 8, 2) := by decide +kernel
theorem d_X_faultOf_76 : decode m_X_faultOf.2.1 76 = .ok (.iload_n 3, 1) := by decide +kernel
theorem d_X_faultOf_77 : decode m_X_faultOf.2.1 77 = .ok (.if_icmp .le 7, 3) := by decide +kernel
theorem d_X_faultOf_80 : decode m_X_faultOf.2.1 80 = .ok (.iconst 1, 1) := by decide +kernel
theorem d_X_faultOf_81 : decode m_X_faultOf.2.1 81 = .ok (.goto 4, 3) := by decide +kernel
theorem d_X_faultOf_84 : decode m_X_faultOf.2.1 84 = .ok (.iconst 0, 1) := by decide +kernel
theorem d_X_faultOf_85 : decode m_X_faultOf.2.1 85 = .ok (.istore 10, 2) := by decide +kernel
theorem d_X_faultOf_87 : decode m_X_faultOf.2.1 87 = .ok (.iload 8, 2) := by decide +kernel
theorem d_X_faultOf_89 : decode m_X_faultOf.2.1 89 = .ok (.istore_n 3, 1) := by decide +kernel
theorem d_X_faultOf_90 : decode m_X_faultOf.2.1 90 = .ok (.iinc 1 1, 3) := by decide +kernel
theorem d_X_faultOf_93 : decode m_X_faultOf.2.1 93 = .ok (.goto 161, 3) := by decide +kernel
theorem d_X_faultOf_96 : decode m_X_faultOf.2.1 96 = .ok (.iload_n 1, 1) := by decide +kernel
theorem d_X_faultOf_97 : decode m_X_faultOf.2.1 97 = .ok (.iconst 3, 1) := by decide +kernel
theorem d_X_faultOf_98 : decode m_X_faultOf.2.1 98 = .ok (.if_icmp .ne 12, 3) := by decide +kernel
theorem d_X_faultOf_101 : decode m_X_faultOf.2.1 101 = .ok (.iload 9, 2) := by decide +kernel
theorem d_X_faultOf_103 : decode m_X_faultOf.2.1 103 = .ok (.istore 10, 2) := by decide +kernel
theorem d_X_faultOf_105 : decode m_X_faultOf.2.1 105 = .ok (.iconst 4, 1) := by decide +kernel
theorem d_X_faultOf_106 : decode m_X_faultOf.2.1 106 = .ok (.istore_n 1, 1) := by decide +kernel
theorem d_X_faultOf_107 : decode m_X_faultOf.2.1 107 = .ok (.goto 147, 3) := by decide +kernel
theorem d_X_faultOf_110 : decode m_X_faultOf.2.1 110 = .ok (.iload_n 1, 1) := by decide +kernel
theorem d_X_faultOf_111 : decode m_X_faultOf.2.1 111 = .ok (.iconst 3, 1) := by decide +kernel
theorem d_X_faultOf_112 : decode m_X_faultOf.2.1 112 = .ok (.if_icmp .ge 18, 3) := by decide +kernel
theorem d_X_faultOf_115 : decode m_X_faultOf.2.1 115 = .ok (.iload 7, 2) := by decide +kernel
theorem d_X_faultOf_117 : decode m_X_faultOf.2.1 117 = .ok (.bipush 43, 2) := by decide +kernel
theorem d_X_faultOf_119 : decode m_X_faultOf.2.1 119 = .ok (.if_icmp .ne 11, 3) := by decide +kernel
theorem d_X_faultOf_122 : decode m_X_faultOf.2.1 122 = .ok (.iconst 1, 1) := by decide +kernel
theorem d_X_faultOf_123 : decode m_X_faultOf.2.1 123 = .ok (.istore 10, 2) := by decide +kernel
theorem d_X_faultOf_125 : decode m_X_faultOf.2.1 125 = .ok (.iconst 3, 1) := by decide +kernel
theorem d_X_faultOf_126 : decode m_X_faultOf.2.1 126 = .ok (.istore_n 1, 1) := by decide +kernel
theorem d_X_faultOf_127 : decode m_X_faultOf.2.1 127 = .ok (.goto 127, 3) := by decide +kernel
theorem d_X_faultOf_130 : decode m_X_faultOf.2.1 130 = .ok (.iload_n 1, 1) := by decide +kernel
theorem d_X_faultOf_131 : decode m_X_faultOf.2.1 131 = .ok (.bipush 6, 2) := by decide +kernel
theorem d_X_faultOf_133 : decode m_X_faultOf.2.1 133 = .ok (.if_icmp .eq 50, 3) := by decide +kernel
theorem d_X_faultOf_136 : decode m_X_faultOf.2.1 136 = .ok (.iload 7, 2) := by decide +kernel
theorem d_X_faultOf_138 : decode m_X_faultOf.2.1 138 = .ok (.bipush 65, 2) := by decide +kernel
theorem d_X_faultOf_140 : decode m_X_faultOf.2.1 140 = .ok (.bipush 70, 2) := by decide +kernel
theorem d_X_faultOf_142 : decode m_X_faultOf.2.1 142 = .ok (.invokestatic 66, 3) := by decide +kernel
theorem d_X_faultOf_145 : decode m_X_faultOf.2.1 145 = .ok (.ifCond .eq 38, 3) := by decide +kernel
theorem d_X_faultOf_148 : decode m_X_faultOf.2.1 148 = .ok (.iload 4, 2) := by decide +kernel
theorem d_X_faultOf_150 : decode m_X_faultOf.2.1 150 = .ok (.iconst 3, 1) := by decide +kernel
theorem d_X_faultOf_151 : decode m_X_faultOf.2.1 151 = .ok (.if_icmp .ge 18, 3) := by decide +kernel
theorem d_X_faultOf_154 : decode m_X_faultOf.2.1 154 = .ok (.iload 4, 2) := by decide +kernel
theorem d_X_faultOf_156 : decode m_X_faultOf.2.1 156 = .ok (.ifCond .eq 9, 3) := by decide +kernel
theorem d_X_faultOf_159 : decode m_X_faultOf.2.1 159 = .ok (.iload 7, 2) := by decide +kernel
theorem d_X_faultOf_161 : decode m_X_faultOf.2.1 161 = .ok (.iload_n 3, 1) := by decide +kernel
theorem d_X_faultOf_162 : decode m_X_faultOf.2.1 162 = .ok (.if_icmp .le 7, 3) := by decide +kernel
theorem d_X_faultOf_165 : decode m_X_faultOf.2.1 165 = .ok (.iconst 1, 1) := by decide +kernel
theorem d_X_faultOf_166 : decode m_X_faultOf.2.1 166 = .ok (.goto 4, 3) := by decide +kernel
theorem d_X_faultOf_169 : decode m_X_faultOf.2.1 169 = .ok (.iconst 0, 1) := by decide +kernel
theorem d_X_faultOf_170 : decode m_X_faultOf.2.1 170 = .ok (.istore 10, 2) := by decide +kernel
theorem d_X_faultOf_172 : decode m_X_faultOf.2.1 172 = .ok (.iload 7, 2) := by decide +kernel
theorem d_X_faultOf_174 : decode m_X_faultOf.2.1 174 = .ok (.istore_n 3, 1) := by decide +kernel
theorem d_X_faultOf_175 : decode m_X_faultOf.2.1 175 = .ok (.iinc 4 1, 3) := by decide +kernel
theorem d_X_faultOf_178 : decode m_X_faultOf.2.1 178 = .ok (.iconst 5, 1) := by decide +kernel
theorem d_X_faultOf_179 : decode m_X_faultOf.2.1 179 = .ok (.istore_n 1, 1) := by decide +kernel
theorem d_X_faultOf_180 : decode m_X_faultOf.2.1 180 = .ok (.goto 74, 3) := by decide +kernel
theorem d_X_faultOf_183 : decode m_X_faultOf.2.1 183 = .ok (.iload_n 1, 1) := by decide +kernel
theorem d_X_faultOf_184 : decode m_X_faultOf.2.1 184 = .ok (.bipush 6, 2) := by decide +kernel
theorem d_X_faultOf_186 : decode m_X_faultOf.2.1 186 = .ok (.if_icmp .eq 38, 3) := by decide +kernel
theorem d_X_faultOf_189 : decode m_X_faultOf.2.1 189 = .ok (.iload 7, 2) := by decide +kernel
theorem d_X_faultOf_191 : decode m_X_faultOf.2.1 191 = .ok (.bipush 63, 2) := by decide +kernel
theorem d_X_faultOf_193 : decode m_X_faultOf.2.1 193 = .ok (.if_icmp .ne 31, 3) := by decide +kernel
theorem d_X_faultOf_196 : decode m_X_faultOf.2.1 196 = .ok (.iload 4, 2) := by decide +kernel
theorem d_X_faultOf_198 : decode m_X_faultOf.2.1 198 = .ok (.iconst 3, 1) := by decide +kernel
theorem d_X_faultOf_199 : decode m_X_faultOf.2.1 199 = .ok (.if_icmp .ge 13, 3) := by decide +kernel
theorem d_X_faultOf_202 : decode m_X_faultOf.2.1 202 = .ok (.iload 5, 2) := by decide +kernel
theorem d_X_faultOf_204 : decode m_X_faultOf.2.1 204 = .ok (.iconst 4, 1) := by decide +kernel
theorem d_X_faultOf_205 : decode m_X_faultOf.2.1 205 = .ok (.if_icmp .ge 7, 3) := by decide +kernel
theorem d_X_faultOf_208 : decode m_X_faultOf.2.1 208 = .ok (.iconst 1, 1) := by decide +kernel
theorem d_X_faultOf_209 : decode m_X_faultOf.2.1 209 = .ok (.goto 4, 3) := by decide +kernel
theorem d_X_faultOf_212 : decode m_X_faultOf.2.1 212 = .ok (.iconst 0, 1) := by decide +kernel
theorem d_X_faultOf_213 : decode m_X_faultOf.2.1 213 = .ok (.istore 10, 2) := by decide +kernel
theorem d_X_faultOf_215 : decode m_X_faultOf.2.1 215 = .ok (.iinc 5 1, 3) := by decide +kernel
theorem d_X_faultOf_218 : decode m_X_faultOf.2.1 218 = .ok (.bipush 6, 2) := by decide +kernel
theorem d_X_faultOf_220 : decode m_X_faultOf.2.1 220 = .ok (.istore_n 1, 1) := by decide +kernel
theorem d_X_faultOf_221 : decode m_X_faultOf.2.1 221 = .ok (.goto 33, 3) := by decide +kernel
theorem d_X_faultOf_224 : decode m_X_faultOf.2.1 224 = .ok (.iload 7, 2) := by decide +kernel
theorem d_X_faultOf_226 : decode m_X_faultOf.2.1 226 = .ok (.bipush 59, 2) := by decide +kernel
theorem d_X_faultOf_228 : decode m_X_faultOf.2.1 228 = .ok (.if_icmp .ne 12, 3) := by decide +kernel
theorem d_X_faultOf_231 : decode m_X_faultOf.2.1 231 = .ok (.iload_n 1, 1) := by decide +kernel
theorem d_X_faultOf_232 : decode m_X_faultOf.2.1 232 = .ok (.iconst 4, 1) := by decide +kernel
theorem d_X_faultOf_233 : decode m_X_faultOf.2.1 233 = .ok (.if_icmp .le 7, 3) := by decide +kernel
theorem d_X_faultOf_236 : decode m_X_faultOf.2.1 236 = .ok (.iconst 1, 1) := by decide +kernel
theorem d_X_faultOf_237 : decode m_X_faultOf.2.1 237 = .ok (.goto 4, 3) := by decide +kernel
theorem d_X_faultOf_240 : decode m_X_faultOf.2.1 240 = .ok (.iconst 0, 1) := by decide +kernel
theorem d_X_faultOf_241 : decode m_X_faultOf.2.1 241 = .ok (.istore 10, 2) := by decide +kernel
theorem d_X_faultOf_243 : decode m_X_faultOf.2.1 243 = .ok (.iinc 2 1, 3) := by decide +kernel
theorem d_X_faultOf_246 : decode m_X_faultOf.2.1 246 = .ok (.iconst 0, 1) := by decide +kernel
theorem d_X_faultOf_247 : decode m_X_faultOf.2.1 247 = .ok (.istore_n 1, 1) := by decide +kernel
theorem d_X_faultOf_248 : decode m_X_faultOf.2.1 248 = .ok (.bipush (-6), 2) := by decide +kernel
theorem d_X_faultOf_250 : decode m_X_faultOf.2.1 250 = .ok (.istore_n 3, 1) := by decide +kernel
theorem d_X_faultOf_251 : decode m_X_faultOf.2.1 251 = .ok (.iconst 0, 1) := by decide +kernel
theorem d_X_faultOf_252 : decode m_X_faultOf.2.1 252 = .ok (.istore 4, 2) := by decide +kernel
theorem d_X_faultOf_254 : decode m_X_faultOf.2.1 254 = .ok (.iload 10, 2) := by decide +kernel
theorem d_X_faultOf_256 : decode m_X_faultOf.2.1 256 = .ok (.ifCond .ne 6, 3) := by decide +kernel
theorem d_X_faultOf_259 : decode m_X_faultOf.2.1 259 = .ok (.iload 6, 2) := by decide +kernel
theorem d_X_faultOf_261 : decode m_X_faultOf.2.1 261 = .ok (.ireturn, 1) := by decide +kernel
theorem d_X_faultOf_262 : decode m_X_faultOf.2.1 262 = .ok (.iinc 6 1, 3) := by decide +kernel
theorem d_X_faultOf_265 : decode m_X_faultOf.2.1 265 = .ok (.goto (-249), 3) := by decide +kernel
theorem d_X_faultOf_268 : decode m_X_faultOf.2.1 268 = .ok (.iload_n 1, 1) := by decide +kernel
theorem d_X_faultOf_269 : decode m_X_faultOf.2.1 269 = .ok (.ifCond .ne 8, 3) := by decide +kernel
theorem d_X_faultOf_272 : decode m_X_faultOf.2.1 272 = .ok (.bipush (-6), 2) := by decide +kernel
theorem d_X_faultOf_274 : decode m_X_faultOf.2.1 274 = .ok (.goto 7, 3) := by decide +kernel
theorem d_X_faultOf_277 : decode m_X_faultOf.2.1 277 = .ok (.aload_n 0, 1) := by decide +kernel
theorem d_X_faultOf_278 : decode m_X_faultOf.2.1 278 = .ok (.getfield 73, 3) := by decide +kernel
theorem d_X_faultOf_281 : decode m_X_faultOf.2.1 281 = .ok (.ireturn, 1) := by decide +kernel
theorem d_X_fed_0 : decode m_X_fed.2.1 0 = .ok (.aload_n 0, 1) := by decide +kernel
theorem d_X_fed_1 : decode m_X_fed.2.1 1 = .ok (.invokevirtual 147, 3) := by decide +kernel
theorem d_X_fed_4 : decode m_X_fed.2.1 4 = .ok (.bipush (-6), 2) := by decide +kernel
theorem d_X_fed_6 : decode m_X_fed.2.1 6 = .ok (.istore_n 2, 1) := by decide +kernel
theorem d_X_fed_7 : decode m_X_fed.2.1 7 = .ok (.iconst 0, 1) := by decide +kernel
theorem d_X_fed_8 : decode m_X_fed.2.1 8 = .ok (.istore_n 3, 1) := by decide +kernel
theorem d_X_fed_9 : decode m_X_fed.2.1 9 = .ok (.iload_n 3, 1) := by decide +kernel
theorem d_X_fed_10 : decode m_X_fed.2.1 10 = .ok (.aload_n 0, 1) := by decide +kernel
theorem d_X_fed_11 : decode m_X_fed.2.1 11 = .ok (.getfield 70, 3) := by decide +kernel
theorem d_X_fed_14 : decode m_X_fed.2.1 14 = .ok (.if_icmp .ge 21, 3) := by decide +kernel
theorem d_X_fed_17 : decode m_X_fed.2.1 17 = .ok (.aload_n 0, 1) := by decide +kernel
theorem d_X_fed_18 : decode m_X_fed.2.1 18 = .ok (.getfield 50, 3) := by decide +kernel
theorem d_X_fed_21 : decode m_X_fed.2.1 21 = .ok (.iload_n 3, 1) := by decide +kernel
theorem d_X_fed_22 : decode m_X_fed.2.1 22 = .ok (.aload_n 0, 1) := by decide +kernel
theorem d_X_fed_23 : decode m_X_fed.2.1 23 = .ok (.getfield 26, 3) := by decide +kernel
theorem d_X_fed_26 : decode m_X_fed.2.1 26 = .ok (.iload_n 3, 1) := by decide +kernel
theorem d_X_fed_27 : decode m_X_fed.2.1 27 = .ok (.iaload, 1) := by decide +kernel
theorem d_X_fed_28 : decode m_X_fed.2.1 28 = .ok (.iastore, 1) := by decide +kernel
theorem d_X_fed_29 : decode m_X_fed.2.1 29 = .ok (.iinc 3 1, 3) := by decide +kernel
theorem d_X_fed_32 : decode m_X_fed.2.1 32 = .ok (.goto (-23), 3) := by decide +kernel
theorem d_X_fed_35 : decode m_X_fed.2.1 35 = .ok (.iconst 0, 1) := by decide +kernel
theorem d_X_fed_36 : decode m_X_fed.2.1 36 = .ok (.istore_n 3, 1) := by decide +kernel
theorem d_X_fed_37 : decode m_X_fed.2.1 37 = .ok (.iload_n 3, 1) := by decide +kernel
theorem d_X_fed_38 : decode m_X_fed.2.1 38 = .ok (.bipush 6, 2) := by decide +kernel
theorem d_X_fed_40 : decode m_X_fed.2.1 40 = .ok (.if_icmp .ge 16, 3) := by decide +kernel
theorem d_X_fed_43 : decode m_X_fed.2.1 43 = .ok (.aload_n 0, 1) := by decide +kernel
theorem d_X_fed_44 : decode m_X_fed.2.1 44 = .ok (.getfield 44, 3) := by decide +kernel
theorem d_X_fed_47 : decode m_X_fed.2.1 47 = .ok (.iload_n 3, 1) := by decide +kernel
theorem d_X_fed_48 : decode m_X_fed.2.1 48 = .ok (.iconst (-1), 1) := by decide +kernel
theorem d_X_fed_49 : decode m_X_fed.2.1 49 = .ok (.iastore, 1) := by decide +kernel
theorem d_X_fed_50 : decode m_X_fed.2.1 50 = .ok (.iinc 3 1, 3) := by decide +kernel
theorem d_X_fed_53 : decode m_X_fed.2.1 53 = .ok (.goto (-16), 3) := by decide +kernel
theorem d_X_fed_56 : decode m_X_fed.2.1 56 = .ok (.iconst 0, 1) := by decide +kernel
theorem d_X_fed_57 : decode m_X_fed.2.1 57 = .ok (.istore_n 3, 1) := by decide +kernel
theorem d_X_fed_58 : decode m_X_fed.2.1 58 = .ok (.iconst 0, 1) := by decide +kernel
theorem d_X_fed_59 : decode m_X_fed.2.1 59 = .ok (.istore 4, 2) := by decide +kernel
theorem d_X_fed_61 : decode m_X_fed.2.1 61 = .ok (.iload_n 3, 1) := by decide +kernel
theorem d_X_fed_62 : decode m_X_fed.2.1 62 = .ok (.ifCond .lt 232, 3) := by decide +kernel
theorem d_X_fed_65 : decode m_X_fed.2.1 65 = .ok (.iload_n 3, 1) := by decide +kernel
theorem d_X_fed_66 : decode m_X_fed.2.1 66 = .ok (.bipush 6, 2) := by decide +kernel
theorem d_X_fed_68 : decode m_X_fed.2.1 68 = .ok (.if_icmp .ne 67, 3) := by decide +kernel
theorem d_X_fed_71 : decode m_X_fed.2.1 71 = .ok (.iload 4, 2) := by decide +kernel
theorem d_X_fed_73 : decode m_X_fed.2.1 73 = .ok (.iload_n 2, 1) := by decide +kernel
theorem d_X_fed_74 : decode m_X_fed.2.1 74 = .ok (.if_icmp .le 55, 3) := by decide +kernel
theorem d_X_fed_77 : decode m_X_fed.2.1 77 = .ok (.iload 4, 2) := by decide +kernel
theorem d_X_fed_79 : decode m_X_fed.2.1 79 = .ok (.istore_n 2, 1) := by decide +kernel
theorem d_X_fed_80 : decode m_X_fed.2.1 80 = .ok (.iconst 0, 1) := by decide +kernel
theorem d_X_fed_81 : decode m_X_fed.2.1 81 = .ok (.istore 5, 2) := by decide +kernel
theorem d_X_fed_83 : decode m_X_fed.2.1 83 = .ok (.iload 5, 2) := by decide +kernel
theorem d_X_fed_85 : decode m_X_fed.2.1 85 = .ok (.bipush 6, 2) := by decide +kernel
theorem d_X_fed_87 : decode m_X_fed.2.1 87 = .ok (.if_icmp .ge 42, 3) := by decide +kernel
theorem d_X_fed_90 : decode m_X_fed.2.1 90 = .ok (.aload_n 0, 1) := by decide +kernel
theorem d_X_fed_91 : decode m_X_fed.2.1 91 = .ok (.getfield 47, 3) := by decide +kernel
theorem d_X_fed_94 : decode m_X_fed.2.1 94 = .ok (.iload 5, 2) := by decide +kernel
theorem d_X_fed_96 : decode m_X_fed.2.1 96 = .ok (.aload_n 0, 1) := by decide +kernel
theorem d_X_fed_97 : decode m_X_fed.2.1 97 = .ok (.getfield 44, 3) := by decide +kernel
theorem d_X_fed_100 : decode m_X_fed.2.1 100 = .ok (.iload 5, 2) := by decide +kernel
theorem d_X_fed_102 : decode m_X_fed.2.1 102 = .ok (.iaload, 1) := by decide +kernel
theorem d_X_fed_103 : decode m_X_fed.2.1 103 = .ok (.aload_n 0, 1) := by decide +kernel
theorem d_X_fed_104 : decode m_X_fed.2.1 104 = .ok (.getfield 70, 3) := by decide +kernel
theorem d_X_fed_107 : decode m_X_fed.2.1 107 = .ok (.if_icmp .ne 8, 3) := by decide +kernel
theorem d_X_fed_110 : decode m_X_fed.2.1 110 = .ok (.bipush (-6), 2) := by decide +kernel
theorem d_X_fed_112 : decode m_X_fed.2.1 112 = .ok (.goto 10, 3) := by decide +kernel
theorem d_X_fed_115 : decode m_X_fed.2.1 115 = .ok (.aload_n 0, 1) := by decide +kernel
theorem d_X_fed_116 : decode m_X_fed.2.1 116 = .ok (.getfield 44, 3) := by decide +kernel
theorem d_X_fed_119 : decode m_X_fed.2.1 119 = .ok (.iload 5, 2) := by decide +kernel
theorem d_X_fed_121 : decode m_X_fed.2.1 121 = .ok (.iaload, 1) := by decide +kernel
theorem d_X_fed_122 : decode m_X_fed.2.1 122 = .ok (.iastore, 1) := by decide +kernel
theorem d_X_fed_123 : decode m_X_fed.2.1 123 = .ok (.iinc 5 1, 3) := by decide +kernel
theorem d_X_fed_126 : decode m_X_fed.2.1 126 = .ok (.goto (-43), 3) := by decide +kernel
theorem d_X_fed_129 : decode m_X_fed.2.1 129 = .ok (.iinc 3 (-1), 3) := by decide +kernel
theorem d_X_fed_132 : decode m_X_fed.2.1 132 = .ok (.goto (-71), 3) := by decide +kernel
theorem d_X_fed_135 : decode m_X_fed.2.1 135 = .ok (.aload_n 0, 1) := by decide +kernel
theorem d_X_fed_136 : decode m_X_fed.2.1 136 = .ok (.getfield 44, 3) := by decide +kernel
theorem d_X_fed_139 : decode m_X_fed.2.1 139 = .ok (.iload_n 3, 1) := by decide +kernel
theorem d_X_fed_140 : decode m_X_fed.2.1 140 = .ok (.iaload, 1) := by decide +kernel
theorem d_X_fed_141 : decode m_X_fed.2.1 141 = .ok (.ifCond .lt 34, 3) := by decide +kernel
theorem d_X_fed_144 : decode m_X_fed.2.1 144 = .ok (.aload_n 0, 1) := by decide +kernel
theorem d_X_fed_145 : decode m_X_fed.2.1 145 = .ok (.getfield 44, 3) := by decide +kernel
theorem d_X_fed_148 : decode m_X_fed.2.1 148 = .ok (.iload_n 3, 1) := by decide +kernel
theorem d_X_fed_149 : decode m_X_fed.2.1 149 = .ok (.iaload, 1) := by decide +kernel
theorem d_X_fed_150 : decode m_X_fed.2.1 150 = .ok (.aload_n 0, 1) := by decide +kernel
theorem d_X_fed_151 : decode m_X_fed.2.1 151 = .ok (.getfield 70, 3) := by decide +kernel
theorem d_X_fed_154 : decode m_X_fed.2.1 154 = .ok (.if_icmp .ge 21, 3) := by decide +kernel
theorem d_X_fed_157 : decode m_X_fed.2.1 157 = .ok (.aload_n 0, 1) := by decide +kernel
theorem d_X_fed_158 : decode m_X_fed.2.1 158 = .ok (.getfield 50, 3) := by decide +kernel
theorem d_X_fed_161 : decode m_X_fed.2.1 161 = .ok (.aload_n 0, 1) := by decide +kernel
theorem d_X_fed_162 : decode m_X_fed.2.1 162 = .ok (.getfield 44, 3) := by decide +kernel
theorem d_X_fed_165 : decode m_X_fed.2.1 165 = .ok (.iload_n 3, 1) := by decide +kernel
theorem d_X_fed_166 : decode m_X_fed.2.1 166 = .ok (.iaload, 1) := by decide +kernel
theorem d_X_fed_167 : decode m_X_fed.2.1 167 = .ok (.dup2, 1) := by decide +kernel
theorem d_X_fed_168 : decode m_X_fed.2.1 168 = .ok (.iaload, 1) := by decide +kernel
theorem d_X_fed_169 : decode m_X_fed.2.1 169 = .ok (.iconst 1, 1) := by decide +kernel
theorem d_X_fed_170 : decode m_X_fed.2.1 170 = .ok (.iadd, 1) := by decide +kernel
theorem d_X_fed_171 : decode m_X_fed.2.1 171 = .ok (.iastore, 1) := by decide +kernel
theorem d_X_fed_172 : decode m_X_fed.2.1 172 = .ok (.iinc 4 (-1), 3) := by decide +kernel
theorem d_X_fed_175 : decode m_X_fed.2.1 175 = .ok (.aload_n 0, 1) := by decide +kernel
theorem d_X_fed_176 : decode m_X_fed.2.1 176 = .ok (.getfield 44, 3) := by decide +kernel
theorem d_X_fed_179 : decode m_X_fed.2.1 179 = .ok (.iload_n 3, 1) := by decide +kernel
theorem d_X_fed_180 : decode m_X_fed.2.1 180 = .ok (.iaload, 1) := by decide +kernel
theorem d_X_fed_181 : decode m_X_fed.2.1 181 = .ok (.iconst 1, 1) := by decide +kernel
theorem d_X_fed_182 : decode m_X_fed.2.1 182 = .ok (.iadd, 1) := by decide +kernel
theorem d_X_fed_183 : decode m_X_fed.2.1 183 = .ok (.istore 5, 2) := by decide +kernel
theorem d_X_fed_185 : decode m_X_fed.2.1 185 = .ok (.iload 5, 2) := by decide +kernel
theorem d_X_fed_187 : decode m_X_fed.2.1 187 = .ok (.aload_n 0, 1) := by decide +kernel
theorem d_X_fed_188 : decode m_X_fed.2.1 188 = .ok (.getfield 70, 3) := by decide +kernel
theorem d_X_fed_191 : decode m_X_fed.2.1 191 = .ok (.if_icmp .ge 33, 3) := by decide +kernel
theorem d_X_fed_194 : decode m_X_fed.2.1 194 = .ok (.aload_n 0, 1) := by decide +kernel
theorem d_X_fed_195 : decode m_X_fed.2.1 195 = .ok (.getfield 41, 3) := by decide +kernel
theorem d_X_fed_198 : decode m_X_fed.2.1 198 = .ok (.iload_n 3, 1) := by decide +kernel
theorem d_X_fed_199 : decode m_X_fed.2.1 199 = .ok (.iaload, 1) := by decide +kernel
theorem d_X_fed_200 : decode m_X_fed.2.1 200 = .ok (.iload 5, 2) := by decide +kernel
theorem d_X_fed_202 : decode m_X_fed.2.1 202 = .ok (.invokestatic 98, 3) := by decide +kernel
theorem d_X_fed_205 : decode m_X_fed.2.1 205 = .ok (.ifCond .eq 13, 3) := by decide +kernel
theorem d_X_fed_208 : decode m_X_fed.2.1 208 = .ok (.aload_n 0, 1) := by decide +kernel
theorem d_X_fed_209 : decode m_X_fed.2.1 209 = .ok (.getfield 50, 3) := by decide +kernel
theorem d_X_fed_212 : decode m_X_fed.2.1 212 = .ok (.iload 5, 2) := by decide +kernel
theorem d_X_fed_214 : decode m_X_fed.2.1 214 = .ok (.iaload, 1) := by decide +kernel
theorem d_X_fed_215 : decode m_X_fed.2.1 215 = .ok (.ifCond .ne 9, 3) := by decide +kernel
theorem d_X_fed_218 : decode m_X_fed.2.1 218 = .ok (.iinc 5 1, 3) := by decide +kernel
theorem d_X_fed_221 : decode m_X_fed.2.1 221 = .ok (.goto (-36), 3) := by decide +kernel
theorem d_X_fed_224 : decode m_X_fed.2.1 224 = .ok (.iload 5, 2) := by decide +kernel
theorem d_X_fed_226 : decode m_X_fed.2.1 226 = .ok (.aload_n 0, 1) := by decide +kernel
theorem d_X_fed_227 : decode m_X_fed.2.1 227 = .ok (.getfield 70, 3) := by decide +kernel
theorem d_X_fed_230 : decode m_X_fed.2.1 230 = .ok (.if_icmp .gt 14, 3) := by decide +kernel
theorem d_X_fed_233 : decode m_X_fed.2.1 233 = .ok (.iload 4, 2) := by decide +kernel
theorem d_X_fed_235 : decode m_X_fed.2.1 235 = .ok (.bipush 6, 2) := by decide +kernel
theorem d_X_fed_237 : decode m_X_fed.2.1 237 = .ok (.iadd, 1) := by decide +kernel
theorem d_X_fed_238 : decode m_X_fed.2.1 238 = .ok (.iload_n 3, 1) := by decide +kernel
theorem d_X_fed_239 : decode m_X_fed.2.1 239 = .ok (.isub, 1) := by decide +kernel
theorem d_X_fed_240 : decode m_X_fed.2.1 240 = .ok (.iload_n 2, 1) := by decide +kernel
theorem d_X_fed_241 : decode m_X_fed.2.1 241 = .ok (.if_icmp .gt 16, 3) := by decide +kernel
theorem d_X_fed_244 : decode m_X_fed.2.1 244 = .ok (.aload_n 0, 1) := by decide +kernel
theorem d_X_fed_245 : decode m_X_fed.2.1 245 = .ok (.getfield 44, 3) := by decide +kernel
theorem d_X_fed_248 : decode m_X_fed.2.1 248 = .ok (.iload_n 3, 1) := by decide +kernel
theorem d_X_fed_249 : decode m_X_fed.2.1 249 = .ok (.iconst (-1), 1) := by decide +kernel
theorem d_X_fed_250 : decode m_X_fed.2.1 250 = .ok (.iastore, 1) := by decide +kernel
theorem d_X_fed_251 : decode m_X_fed.2.1 251 = .ok (.iinc 3 (-1), 3) := by decide +kernel
theorem d_X_fed_254 : decode m_X_fed.2.1 254 = .ok (.goto (-193), 3) := by decide +kernel
theorem d_X_fed_257 : decode m_X_fed.2.1 257 = .ok (.aload_n 0, 1) := by decide +kernel
theorem d_X_fed_258 : decode m_X_fed.2.1 258 = .ok (.getfield 44, 3) := by decide +kernel
theorem d_X_fed_261 : decode m_X_fed.2.1 261 = .ok (.iload_n 3, 1) := by decide +kernel
theorem d_X_fed_262 : decode m_X_fed.2.1 262 = .ok (.iload 5, 2) := by decide +kernel
theorem d_X_fed_264 : decode m_X_fed.2.1 264 = .ok (.iastore, 1) := by decide +kernel
theorem d_X_fed_265 : decode m_X_fed.2.1 265 = .ok (.iload 5, 2) := by decide +kernel
theorem d_X_fed_267 : decode m_X_fed.2.1 267 = .ok (.aload_n 0, 1) := by decide +kernel
theorem d_X_fed_268 : decode m_X_fed.2.1 268 = .ok (.getfield 70, 3) := by decide +kernel
theorem d_X_fed_271 : decode m_X_fed.2.1 271 = .ok (.if_icmp .ge 17, 3) := by decide +kernel
theorem d_X_fed_274 : decode m_X_fed.2.1 274 = .ok (.aload_n 0, 1) := by decide +kernel
theorem d_X_fed_275 : decode m_X_fed.2.1 275 = .ok (.getfield 50, 3) := by decide +kernel
theorem d_X_fed_278 : decode m_X_fed.2.1 278 = .ok (.iload 5, 2) := by decide +kernel
theorem d_X_fed_280 : decode m_X_fed.2.1 280 = .ok (.dup2, 1) := by decide +kernel
theorem d_X_fed_281 : decode m_X_fed.2.1 281 = .ok (.iaload, 1) := by decide +kernel
theorem d_X_fed_282 : decode m_X_fed.2.1 282 = .ok (.iconst 1, 1) := by decide +kernel
theorem d_X_fed_283 : decode m_X_fed.2.1 283 = .ok (.isub, 1) := by decide +kernel
theorem d_X_fed_284 : decode m_X_fed.2.1 284 = .ok (.iastore, 1) := by decide +kernel
theorem d_X_fed_285 : decode m_X_fed.2.1 285 = .ok (.iinc 4 1, 3) := by decide +kernel
theorem d_X_fed_288 : decode m_X_fed.2.1 288 = .ok (.iinc 3 1, 3) := by decide +kernel
theorem d_X_fed_291 : decode m_X_fed.2.1 291 = .ok (.goto (-230), 3) := by decide +kernel
theorem d_X_fed_294 : decode m_X_fed.2.1 294 = .ok (.iload_n 1, 1) := by decide +kernel
theorem d_X_fed_295 : decode m_X_fed.2.1 295 = .ok (.iconst (-1), 1) := by decide +kernel
theorem d_X_fed_296 : decode m_X_fed.2.1 296 = .ok (.if_icmp .ne 7, 3) := by decide +kernel
theorem d_X_fed_299 : decode m_X_fed.2.1 299 = .ok (.iload_n 2, 1) := by decide +kernel
theorem d_X_fed_300 : decode m_X_fed.2.1 300 = .ok (.goto 21, 3) := by decide +kernel
theorem d_X_fed_303 : decode m_X_fed.2.1 303 = .ok (.iload_n 1, 1) := by decide +kernel
theorem d_X_fed_304 : decode m_X_fed.2.1 304 = .ok (.invokestatic 87, 3) := by decide +kernel
theorem d_X_fed_307 : decode m_X_fed.2.1 307 = .ok (.ifCond .eq 12, 3) := by decide +kernel
theorem d_X_fed_310 : decode m_X_fed.2.1 310 = .ok (.aload_n 0, 1) := by decide +kernel
theorem d_X_fed_311 : decode m_X_fed.2.1 311 = .ok (.getfield 47, 3) := by decide +kernel
theorem d_X_fed_314 : decode m_X_fed.2.1 314 = .ok (.iload_n 1, 1) := by decide +kernel
theorem d_X_fed_315 : decode m_X_fed.2.1 315 = .ok (.iaload, 1) := by decide +kernel
theorem d_X_fed_316 : decode m_X_fed.2.1 316 = .ok (.goto 5, 3) := by decide +kernel
theorem d_X_fed_319 : decode m_X_fed.2.1 319 = .ok (.bipush (-6), 2) := by decide +kernel
theorem d_X_fed_321 : decode m_X_fed.2.1 321 = .ok (.ireturn, 1) := by decide +kernel
theorem d_X_feeds_0 : decode m_X_feeds.2.1 0 = .ok (.iconst 1, 1) := by decide +kernel
theorem d_X_feeds_1 : decode m_X_feeds.2.1 1 = .ok (.istore_n 3, 1) := by decide +kernel
theorem d_X_feeds_2 : decode m_X_feeds.2.1 2 = .ok (.iload_n 3, 1) := by decide +kernel
theorem d_X_feeds_3 : decode m_X_feeds.2.1 3 = .ok (.bipush 64, 2) := by decide +kernel
theorem d_X_feeds_5 : decode m_X_feeds.2.1 5 = .ok (.if_icmp .ge 99, 3) := by decide +kernel
theorem d_X_feeds_8 : decode m_X_feeds.2.1 8 = .ok (.iconst 0, 1) := by decide +kernel
theorem d_X_feeds_9 : decode m_X_feeds.2.1 9 = .ok (.istore 4, 2) := by decide +kernel
theorem d_X_feeds_11 : decode m_X_feeds.2.1 11 = .ok (.iconst 0, 1) := by decide +kernel
theorem d_X_feeds_12 : decode m_X_feeds.2.1 12 = .ok (.istore 5, 2) := by decide +kernel
theorem d_X_feeds_14 : decode m_X_feeds.2.1 14 = .ok (.iload 5, 2) := by decide +kernel
theorem d_X_feeds_16 : decode m_X_feeds.2.1 16 = .ok (.bipush 6, 2) := by decide +kernel
theorem d_X_feeds_18 : decode m_X_feeds.2.1 18 = .ok (.if_icmp .ge 69, 3) := by decide +kernel
theorem d_X_feeds_21 : decode m_X_feeds.2.1 21 = .ok (.iload_n 3, 1) := by decide +kernel
theorem d_X_feeds_22 : decode m_X_feeds.2.1 22 = .ok (.iconst 1, 1) := by decide +kernel
theorem d_X_feeds_23 : decode m_X_feeds.2.1 23 = .ok (.iload 5, 2) := by decide +kernel
theorem d_X_feeds_25 : decode m_X_feeds.2.1 25 = .ok (.ishl, 1) := by decide +kernel
theorem d_X_feeds_26 : decode m_X_feeds.2.1 26 = .ok (.iconst (-1), 1) := by decide +kernel
theorem d_X_feeds_27 : decode m_X_feeds.2.1 27 = .ok (.ixor, 1) := by decide +kernel
theorem d_X_feeds_28 : decode m_X_feeds.2.1 28 = .ok (.iand, 1) := by decide +kernel
theorem d_X_feeds_29 : decode m_X_feeds.2.1 29 = .ok (.aload_n 0, 1) := by decide +kernel
theorem d_X_feeds_30 : decode m_X_feeds.2.1 30 = .ok (.getfield 16, 3) := by decide +kernel
theorem d_X_feeds_33 : decode m_X_feeds.2.1 33 = .ok (.iload 5, 2) := by decide +kernel
theorem d_X_feeds_35 : decode m_X_feeds.2.1 35 = .ok (.iaload, 1) := by decide +kernel
theorem d_X_feeds_36 : decode m_X_feeds.2.1 36 = .ok (.ifCond .lt 15, 3) := by decide +kernel
theorem d_X_feeds_39 : decode m_X_feeds.2.1 39 = .ok (.iconst 1, 1) := by decide +kernel
theorem d_X_feeds_40 : decode m_X_feeds.2.1 40 = .ok (.aload_n 0, 1) := by decide +kernel
theorem d_X_feeds_41 : decode m_X_feeds.2.1 41 = .ok (.getfield 16, 3) := by decide +kernel
theorem d_X_feeds_44 : decode m_X_feeds.2.1 44 = .ok (.iload 5, 2) := by decide +kernel
theorem d_X_feeds_46 : decode m_X_feeds.2.1 46 = .ok (.iaload, 1) := by decide +kernel
theorem d_X_feeds_47 : decode m_X_feeds.2.1 47 = .ok (.ishl, 1) := by decide +kernel
theorem d_X_feeds_48 : decode m_X_feeds.2.1 48 = .ok (.goto 4, 3) := by decide +kernel
theorem d_X_feeds_51 : decode m_X_feeds.2.1 51 = .ok (.iconst 0, 1) := by decide +kernel
theorem d_X_feeds_52 : decode m_X_feeds.2.1 52 = .ok (.iconst (-1), 1) := by decide +kernel
theorem d_X_feeds_53 : decode m_X_feeds.2.1 53 = .ok (.ixor, 1) := by decide +kernel
theorem d_X_feeds_54 : decode m_X_feeds.2.1 54 = .ok (.iand, 1) := by decide +kernel
theorem d_X_feeds_55 : decode m_X_feeds.2.1 55 = .ok (.istore 6, 2) := by decide +kernel
theorem d_X_feeds_57 : decode m_X_feeds.2.1 57 = .ok (.iload 4, 2) := by decide +kernel
theorem d_X_feeds_59 : decode m_X_feeds.2.1 59 = .ok (.iload_n 1, 1) := by decide +kernel
theorem d_X_feeds_60 : decode m_X_feeds.2.1 60 = .ok (.iload 5, 2) := by decide +kernel
theorem d_X_feeds_62 : decode m_X_feeds.2.1 62 = .ok (.invokestatic 98, 3) := by decide +kernel
theorem d_X_feeds_65 : decode m_X_feeds.2.1 65 = .ok (.ifCond .eq 12, 3) := by decide +kernel
theorem d_X_feeds_68 : decode m_X_feeds.2.1 68 = .ok (.iload 6, 2) := by decide +kernel
theorem d_X_feeds_70 : decode m_X_feeds.2.1 70 = .ok (.ifCond .eq 7, 3) := by decide +kernel
theorem d_X_feeds_73 : decode m_X_feeds.2.1 73 = .ok (.iload_n 2, 1) := by decide +kernel
theorem d_X_feeds_74 : decode m_X_feeds.2.1 74 = .ok (.goto 4, 3) := by decide +kernel
theorem d_X_feeds_77 : decode m_X_feeds.2.1 77 = .ok (.iconst 0, 1) := by decide +kernel
theorem d_X_feeds_78 : decode m_X_feeds.2.1 78 = .ok (.iadd, 1) := by decide +kernel
theorem d_X_feeds_79 : decode m_X_feeds.2.1 79 = .ok (.istore 4, 2) := by decide +kernel
theorem d_X_feeds_81 : decode m_X_feeds.2.1 81 = .ok (.iinc 5 1, 3) := by decide +kernel
theorem d_X_feeds_84 : decode m_X_feeds.2.1 84 = .ok (.goto (-70), 3) := by decide +kernel
theorem d_X_feeds_87 : decode m_X_feeds.2.1 87 = .ok (.iload 4, 2) := by decide +kernel
theorem d_X_feeds_89 : decode m_X_feeds.2.1 89 = .ok (.iload_n 3, 1) := by decide +kernel
theorem d_X_feeds_90 : decode m_X_feeds.2.1 90 = .ok (.invokestatic 109, 3) := by decide +kernel
theorem d_X_feeds_93 : decode m_X_feeds.2.1 93 = .ok (.if_icmp .ge 5, 3) := by decide +kernel
theorem d_X_feeds_96 : decode m_X_feeds.2.1 96 = .ok (.iconst 0, 1) := by decide +kernel
theorem d_X_feeds_97 : decode m_X_feeds.2.1 97 = .ok (.ireturn, 1) := by decide +kernel
theorem d_X_feeds_98 : decode m_X_feeds.2.1 98 = .ok (.iinc 3 1, 3) := by decide +kernel
theorem d_X_feeds_101 : decode m_X_feeds.2.1 101 = .ok (.goto (-99), 3) := by decide +kernel
theorem d_X_feeds_104 : decode m_X_feeds.2.1 104 = .ok (.iconst 1, 1) := by decide +kernel
theorem d_X_feeds_105 : decode m_X_feeds.2.1 105 = .ok (.ireturn, 1) := by decide +kernel
theorem d_X_fill_0 : decode m_X_fill.2.1 0 = .ok (.aload_n 0, 1) := by decide +kernel
theorem d_X_fill_1 : decode m_X_fill.2.1 1 = .ok (.invokevirtual 116, 3) := by decide +kernel
theorem d_X_fill_4 : decode m_X_fill.2.1 4 = .ok (.iconst 0, 1) := by decide +kernel
theorem d_X_fill_5 : decode m_X_fill.2.1 5 = .ok (.istore_n 2, 1) := by decide +kernel
theorem d_X_fill_6 : decode m_X_fill.2.1 6 = .ok (.iconst 1, 1) := by decide +kernel
theorem d_X_fill_7 : decode m_X_fill.2.1 7 = .ok (.istore_n 3, 1) := by decide +kernel
theorem d_X_fill_8 : decode m_X_fill.2.1 8 = .ok (.iconst 0, 1) := by decide +kernel
theorem d_X_fill_9 : decode m_X_fill.2.1 9 = .ok (.istore 4, 2) := by decide +kernel
theorem d_X_fill_11 : decode m_X_fill.2.1 11 = .ok (.iload 4, 2) := by decide +kernel
theorem d_X_fill_13 : decode m_X_fill.2.1 13 = .ok (.aload_n 0, 1) := by decide +kernel
theorem d_X_fill_14 : decode m_X_fill.2.1 14 = .ok (.getfield 70, 3) := by decide +kernel
theorem d_X_fill_17 : decode m_X_fill.2.1 17 = .ok (.if_icmp .ge 74, 3) := by decide +kernel
theorem d_X_fill_20 : decode m_X_fill.2.1 20 = .ok (.aload_n 0, 1) := by decide +kernel
theorem d_X_fill_21 : decode m_X_fill.2.1 21 = .ok (.getfield 23, 3) := by decide +kernel
end
section
theorem d_X_fill_24 : decode m_X_fill.2.1 24 = .ok (.iconst 5, 1) := by decide +kernel
theorem d_X_fill_25 : decode m_X_fill.2.1 25 = .ok (.iload 4, 2) := by decide +kernel
theorem d_X_fill_27 : decode m_X_fill.2.1 27 = .ok (.imul, 1) := by decide +kernel
theorem d_X_fill_28 : decode m_X_fill.2.1 28 = .ok (.iconst 4, 1) := by decide +kernel
theorem d_X_fill_29 : decode m_X_fill.2.1 29 = .ok (.iadd, 1) := by decide +kernel
theorem d_X_fill_30 : decode m_X_fill.2.1 30 = .ok (.iaload, 1) := by decide +kernel
theorem d_X_fill_31 : decode m_X_fill.2.1 31 = .ok (.iconst 1, 1) := by decide +kernel
theorem d_X_fill_32 : decode m_X_fill.2.1 32 = .ok (.if_icmp .ne 53, 3) := by decide +kernel
theorem d_X_fill_35 : decode m_X_fill.2.1 35 = .ok (.aload_n 0, 1) := by decide +kernel
theorem d_X_fill_36 : decode m_X_fill.2.1 36 = .ok (.iload_n 1, 1) := by decide +kernel
theorem d_X_fill_37 : decode m_X_fill.2.1 37 = .ok (.iload_n 2, 1) := by decide +kernel
theorem d_X_fill_38 : decode m_X_fill.2.1 38 = .ok (.invokevirtual 138, 3) := by decide +kernel
theorem d_X_fill_41 : decode m_X_fill.2.1 41 = .ok (.istore 5, 2) := by decide +kernel
theorem d_X_fill_43 : decode m_X_fill.2.1 43 = .ok (.iload_n 3, 1) := by decide +kernel
theorem d_X_fill_44 : decode m_X_fill.2.1 44 = .ok (.ifCond .eq 22, 3) := by decide +kernel
theorem d_X_fill_47 : decode m_X_fill.2.1 47 = .ok (.aload_n 0, 1) := by decide +kernel
theorem d_X_fill_48 : decode m_X_fill.2.1 48 = .ok (.getfield 32, 3) := by decide +kernel
theorem d_X_fill_51 : decode m_X_fill.2.1 51 = .ok (.iload 4, 2) := by decide +kernel
theorem d_X_fill_53 : decode m_X_fill.2.1 53 = .ok (.iaload, 1) := by decide +kernel
theorem d_X_fill_54 : decode m_X_fill.2.1 54 = .ok (.iload 5, 2) := by decide +kernel
theorem d_X_fill_56 : decode m_X_fill.2.1 56 = .ok (.invokestatic 98, 3) := by decide +kernel
theorem d_X_fill_59 : decode m_X_fill.2.1 59 = .ok (.ifCond .ne 7, 3) := by decide +kernel
theorem d_X_fill_62 : decode m_X_fill.2.1 62 = .ok (.iconst 1, 1) := by decide +kernel
theorem d_X_fill_63 : decode m_X_fill.2.1 63 = .ok (.goto 4, 3) := by decide +kernel
theorem d_X_fill_66 : decode m_X_fill.2.1 66 = .ok (.iconst 0, 1) := by decide +kernel
theorem d_X_fill_67 : decode m_X_fill.2.1 67 = .ok (.istore_n 3, 1) := by decide +kernel
theorem d_X_fill_68 : decode m_X_fill.2.1 68 = .ok (.aload_n 0, 1) := by decide +kernel
theorem d_X_fill_69 : decode m_X_fill.2.1 69 = .ok (.getfield 32, 3) := by decide +kernel
theorem d_X_fill_72 : decode m_X_fill.2.1 72 = .ok (.iload 4, 2) := by decide +kernel
theorem d_X_fill_74 : decode m_X_fill.2.1 74 = .ok (.dup2, 1) := by decide +kernel
theorem d_X_fill_75 : decode m_X_fill.2.1 75 = .ok (.iaload, 1) := by decide +kernel
theorem d_X_fill_76 : decode m_X_fill.2.1 76 = .ok (.iconst 1, 1) := by decide +kernel
theorem d_X_fill_77 : decode m_X_fill.2.1 77 = .ok (.iload 5, 2) := by decide +kernel
theorem d_X_fill_79 : decode m_X_fill.2.1 79 = .ok (.ishl, 1) := by decide +kernel
theorem d_X_fill_80 : decode m_X_fill.2.1 80 = .ok (.ior, 1) := by decide +kernel
theorem d_X_fill_81 : decode m_X_fill.2.1 81 = .ok (.iastore, 1) := by decide +kernel
theorem d_X_fill_82 : decode m_X_fill.2.1 82 = .ok (.iinc 2 1, 3) := by decide +kernel
theorem d_X_fill_85 : decode m_X_fill.2.1 85 = .ok (.iinc 4 1, 3) := by decide +kernel
theorem d_X_fill_88 : decode m_X_fill.2.1 88 = .ok (.goto (-77), 3) := by decide +kernel
theorem d_X_fill_91 : decode m_X_fill.2.1 91 = .ok (.iconst 0, 1) := by decide +kernel
theorem d_X_fill_92 : decode m_X_fill.2.1 92 = .ok (.istore 4, 2) := by decide +kernel
theorem d_X_fill_94 : decode m_X_fill.2.1 94 = .ok (.iload 4, 2) := by decide +kernel
theorem d_X_fill_96 : decode m_X_fill.2.1 96 = .ok (.aload_n 0, 1) := by decide +kernel
theorem d_X_fill_97 : decode m_X_fill.2.1 97 = .ok (.getfield 80, 3) := by decide +kernel
theorem d_X_fill_100 : decode m_X_fill.2.1 100 = .ok (.if_icmp .ge 49, 3) := by decide +kernel
theorem d_X_fill_103 : decode m_X_fill.2.1 103 = .ok (.iload_n 3, 1) := by decide +kernel
theorem d_X_fill_104 : decode m_X_fill.2.1 104 = .ok (.ifCond .eq 45, 3) := by decide +kernel
theorem d_X_fill_107 : decode m_X_fill.2.1 107 = .ok (.aload_n 0, 1) := by decide +kernel
theorem d_X_fill_108 : decode m_X_fill.2.1 108 = .ok (.aload_n 0, 1) := by decide +kernel
theorem d_X_fill_109 : decode m_X_fill.2.1 109 = .ok (.getfield 29, 3) := by decide +kernel
theorem d_X_fill_112 : decode m_X_fill.2.1 112 = .ok (.iconst 2, 1) := by decide +kernel
theorem d_X_fill_113 : decode m_X_fill.2.1 113 = .ok (.iload 4, 2) := by decide +kernel
theorem d_X_fill_115 : decode m_X_fill.2.1 115 = .ok (.imul, 1) := by decide +kernel
theorem d_X_fill_116 : decode m_X_fill.2.1 116 = .ok (.iconst 1, 1) := by decide +kernel
theorem d_X_fill_117 : decode m_X_fill.2.1 117 = .ok (.iadd, 1) := by decide +kernel
theorem d_X_fill_118 : decode m_X_fill.2.1 118 = .ok (.iaload, 1) := by decide +kernel
theorem d_X_fill_119 : decode m_X_fill.2.1 119 = .ok (.invokevirtual 119, 3) := by decide +kernel
theorem d_X_fill_122 : decode m_X_fill.2.1 122 = .ok (.aload_n 0, 1) := by decide +kernel
theorem d_X_fill_123 : decode m_X_fill.2.1 123 = .ok (.getfield 29, 3) := by decide +kernel
theorem d_X_fill_126 : decode m_X_fill.2.1 126 = .ok (.iconst 2, 1) := by decide +kernel
theorem d_X_fill_127 : decode m_X_fill.2.1 127 = .ok (.iload 4, 2) := by decide +kernel
theorem d_X_fill_129 : decode m_X_fill.2.1 129 = .ok (.imul, 1) := by decide +kernel
theorem d_X_fill_130 : decode m_X_fill.2.1 130 = .ok (.iaload, 1) := by decide +kernel
theorem d_X_fill_131 : decode m_X_fill.2.1 131 = .ok (.invokestatic 98, 3) := by decide +kernel
theorem d_X_fill_134 : decode m_X_fill.2.1 134 = .ok (.ifCond .ne 7, 3) := by decide +kernel
theorem d_X_fill_137 : decode m_X_fill.2.1 137 = .ok (.iconst 1, 1) := by decide +kernel
theorem d_X_fill_138 : decode m_X_fill.2.1 138 = .ok (.goto 4, 3) := by decide +kernel
theorem d_X_fill_141 : decode m_X_fill.2.1 141 = .ok (.iconst 0, 1) := by decide +kernel
theorem d_X_fill_142 : decode m_X_fill.2.1 142 = .ok (.istore_n 3, 1) := by decide +kernel
theorem d_X_fill_143 : decode m_X_fill.2.1 143 = .ok (.iinc 4 1, 3) := by decide +kernel
theorem d_X_fill_146 : decode m_X_fill.2.1 146 = .ok (.goto (-52), 3) := by decide +kernel
theorem d_X_fill_149 : decode m_X_fill.2.1 149 = .ok (.iload_n 3, 1) := by decide +kernel
theorem d_X_fill_150 : decode m_X_fill.2.1 150 = .ok (.ireturn, 1) := by decide +kernel
theorem d_X_filled_0 : decode m_X_filled.2.1 0 = .ok (.iconst 0, 1) := by decide +kernel
theorem d_X_filled_1 : decode m_X_filled.2.1 1 = .ok (.istore_n 2, 1) := by decide +kernel
theorem d_X_filled_2 : decode m_X_filled.2.1 2 = .ok (.bipush (-6), 2) := by decide +kernel
theorem d_X_filled_4 : decode m_X_filled.2.1 4 = .ok (.istore_n 3, 1) := by decide +kernel
theorem d_X_filled_5 : decode m_X_filled.2.1 5 = .ok (.iconst 0, 1) := by decide +kernel
theorem d_X_filled_6 : decode m_X_filled.2.1 6 = .ok (.istore 4, 2) := by decide +kernel
theorem d_X_filled_8 : decode m_X_filled.2.1 8 = .ok (.iload 4, 2) := by decide +kernel
theorem d_X_filled_10 : decode m_X_filled.2.1 10 = .ok (.aload_n 0, 1) := by decide +kernel
theorem d_X_filled_11 : decode m_X_filled.2.1 11 = .ok (.invokevirtual 141, 3) := by decide +kernel
theorem d_X_filled_14 : decode m_X_filled.2.1 14 = .ok (.if_icmp .ge 32, 3) := by decide +kernel
theorem d_X_filled_17 : decode m_X_filled.2.1 17 = .ok (.aload_n 0, 1) := by decide +kernel
theorem d_X_filled_18 : decode m_X_filled.2.1 18 = .ok (.iload 4, 2) := by decide +kernel
theorem d_X_filled_20 : decode m_X_filled.2.1 20 = .ok (.invokevirtual 144, 3) := by decide +kernel
theorem d_X_filled_23 : decode m_X_filled.2.1 23 = .ok (.ifCond .eq 17, 3) := by decide +kernel
theorem d_X_filled_26 : decode m_X_filled.2.1 26 = .ok (.iload_n 3, 1) := by decide +kernel
theorem d_X_filled_27 : decode m_X_filled.2.1 27 = .ok (.ifCond .ge 8, 3) := by decide +kernel
theorem d_X_filled_30 : decode m_X_filled.2.1 30 = .ok (.iload 4, 2) := by decide +kernel
theorem d_X_filled_32 : decode m_X_filled.2.1 32 = .ok (.goto 4, 3) := by decide +kernel
theorem d_X_filled_35 : decode m_X_filled.2.1 35 = .ok (.iload_n 3, 1) := by decide +kernel
theorem d_X_filled_36 : decode m_X_filled.2.1 36 = .ok (.istore_n 3, 1) := by decide +kernel
theorem d_X_filled_37 : decode m_X_filled.2.1 37 = .ok (.iinc 2 1, 3) := by decide +kernel
theorem d_X_filled_40 : decode m_X_filled.2.1 40 = .ok (.iinc 4 1, 3) := by decide +kernel
theorem d_X_filled_43 : decode m_X_filled.2.1 43 = .ok (.goto (-35), 3) := by decide +kernel
theorem d_X_filled_46 : decode m_X_filled.2.1 46 = .ok (.iload_n 1, 1) := by decide +kernel
theorem d_X_filled_47 : decode m_X_filled.2.1 47 = .ok (.iconst (-1), 1) := by decide +kernel
theorem d_X_filled_48 : decode m_X_filled.2.1 48 = .ok (.if_icmp .ne 5, 3) := by decide +kernel
theorem d_X_filled_51 : decode m_X_filled.2.1 51 = .ok (.iload_n 2, 1) := by decide +kernel
theorem d_X_filled_52 : decode m_X_filled.2.1 52 = .ok (.ireturn, 1) := by decide +kernel
theorem d_X_filled_53 : decode m_X_filled.2.1 53 = .ok (.iload_n 3, 1) := by decide +kernel
theorem d_X_filled_54 : decode m_X_filled.2.1 54 = .ok (.ifCond .lt 26, 3) := by decide +kernel
theorem d_X_filled_57 : decode m_X_filled.2.1 57 = .ok (.iload_n 1, 1) := by decide +kernel
theorem d_X_filled_58 : decode m_X_filled.2.1 58 = .ok (.iconst 0, 1) := by decide +kernel
theorem d_X_filled_59 : decode m_X_filled.2.1 59 = .ok (.aload_n 0, 1) := by decide +kernel
theorem d_X_filled_60 : decode m_X_filled.2.1 60 = .ok (.invokevirtual 135, 3) := by decide +kernel
theorem d_X_filled_63 : decode m_X_filled.2.1 63 = .ok (.iconst 1, 1) := by decide +kernel
theorem d_X_filled_64 : decode m_X_filled.2.1 64 = .ok (.isub, 1) := by decide +kernel
theorem d_X_filled_65 : decode m_X_filled.2.1 65 = .ok (.invokestatic 66, 3) := by decide +kernel
theorem d_X_filled_68 : decode m_X_filled.2.1 68 = .ok (.ifCond .eq 12, 3) := by decide +kernel
theorem d_X_filled_71 : decode m_X_filled.2.1 71 = .ok (.aload_n 0, 1) := by decide +kernel
theorem d_X_filled_72 : decode m_X_filled.2.1 72 = .ok (.iload_n 3, 1) := by decide +kernel
theorem d_X_filled_73 : decode m_X_filled.2.1 73 = .ok (.iload_n 1, 1) := by decide +kernel
theorem d_X_filled_74 : decode m_X_filled.2.1 74 = .ok (.invokevirtual 138, 3) := by decide +kernel
theorem d_X_filled_77 : decode m_X_filled.2.1 77 = .ok (.goto 5, 3) := by decide +kernel
theorem d_X_filled_80 : decode m_X_filled.2.1 80 = .ok (.bipush (-6), 2) := by decide +kernel
theorem d_X_filled_82 : decode m_X_filled.2.1 82 = .ok (.ireturn, 1) := by decide +kernel
theorem d_X_forget_0 : decode m_X_forget.2.1 0 = .ok (.aload_n 0, 1) := by decide +kernel
theorem d_X_forget_1 : decode m_X_forget.2.1 1 = .ok (.getfield 80, 3) := by decide +kernel
theorem d_X_forget_4 : decode m_X_forget.2.1 4 = .ok (.istore_n 1, 1) := by decide +kernel
theorem d_X_forget_5 : decode m_X_forget.2.1 5 = .ok (.aload_n 0, 1) := by decide +kernel
theorem d_X_forget_6 : decode m_X_forget.2.1 6 = .ok (.iconst 0, 1) := by decide +kernel
theorem d_X_forget_7 : decode m_X_forget.2.1 7 = .ok (.putfield 80, 3) := by decide +kernel
theorem d_X_forget_10 : decode m_X_forget.2.1 10 = .ok (.iload_n 1, 1) := by decide +kernel
theorem d_X_forget_11 : decode m_X_forget.2.1 11 = .ok (.ireturn, 1) := by decide +kernel
theorem d_X_has_0 : decode m_X_has.2.1 0 = .ok (.iload_n 0, 1) := by decide +kernel
theorem d_X_has_1 : decode m_X_has.2.1 1 = .ok (.iload_n 1, 1) := by decide +kernel
theorem d_X_has_2 : decode m_X_has.2.1 2 = .ok (.ishr, 1) := by decide +kernel
theorem d_X_has_3 : decode m_X_has.2.1 3 = .ok (.iconst 1, 1) := by decide +kernel
theorem d_X_has_4 : decode m_X_has.2.1 4 = .ok (.iand, 1) := by decide +kernel
theorem d_X_has_5 : decode m_X_has.2.1 5 = .ok (.iconst 1, 1) := by decide +kernel
theorem d_X_has_6 : decode m_X_has.2.1 6 = .ok (.if_icmp .ne 7, 3) := by decide +kernel
theorem d_X_has_9 : decode m_X_has.2.1 9 = .ok (.iconst 1, 1) := by decide +kernel
theorem d_X_has_10 : decode m_X_has.2.1 10 = .ok (.goto 4, 3) := by decide +kernel
theorem d_X_has_13 : decode m_X_has.2.1 13 = .ok (.iconst 0, 1) := by decide +kernel
theorem d_X_has_14 : decode m_X_has.2.1 14 = .ok (.ireturn, 1) := by decide +kernel
theorem d_X_image_0 : decode m_X_image.2.1 0 = .ok (.iload_n 1, 1) := by decide +kernel
theorem d_X_image_1 : decode m_X_image.2.1 1 = .ok (.iconst 0, 1) := by decide +kernel
theorem d_X_image_2 : decode m_X_image.2.1 2 = .ok (.iconst 1, 1) := by decide +kernel
theorem d_X_image_3 : decode m_X_image.2.1 3 = .ok (.invokestatic 66, 3) := by decide +kernel
theorem d_X_image_6 : decode m_X_image.2.1 6 = .ok (.ifCond .ne 6, 3) := by decide +kernel
theorem d_X_image_9 : decode m_X_image.2.1 9 = .ok (.bipush (-2), 2) := by decide +kernel
theorem d_X_image_11 : decode m_X_image.2.1 11 = .ok (.ireturn, 1) := by decide +kernel
theorem d_X_image_12 : decode m_X_image.2.1 12 = .ok (.bipush 84, 2) := by decide +kernel
theorem d_X_image_14 : decode m_X_image.2.1 14 = .ok (.iload_n 1, 1) := by decide +kernel
theorem d_X_image_15 : decode m_X_image.2.1 15 = .ok (.imul, 1) := by decide +kernel
theorem d_X_image_16 : decode m_X_image.2.1 16 = .ok (.istore_n 2, 1) := by decide +kernel
theorem d_X_image_17 : decode m_X_image.2.1 17 = .ok (.iconst 0, 1) := by decide +kernel
theorem d_X_image_18 : decode m_X_image.2.1 18 = .ok (.istore_n 3, 1) := by decide +kernel
theorem d_X_image_19 : decode m_X_image.2.1 19 = .ok (.iload_n 3, 1) := by decide +kernel
theorem d_X_image_20 : decode m_X_image.2.1 20 = .ok (.bipush 50, 2) := by decide +kernel
theorem d_X_image_22 : decode m_X_image.2.1 22 = .ok (.if_icmp .ge 23, 3) := by decide +kernel
theorem d_X_image_25 : decode m_X_image.2.1 25 = .ok (.aload_n 0, 1) := by decide +kernel
theorem d_X_image_26 : decode m_X_image.2.1 26 = .ok (.getfield 59, 3) := by decide +kernel
theorem d_X_image_29 : decode m_X_image.2.1 29 = .ok (.iload_n 2, 1) := by decide +kernel
theorem d_X_image_30 : decode m_X_image.2.1 30 = .ok (.iload_n 3, 1) := by decide +kernel
theorem d_X_image_31 : decode m_X_image.2.1 31 = .ok (.iadd, 1) := by decide +kernel
theorem d_X_image_32 : decode m_X_image.2.1 32 = .ok (.aload_n 0, 1) := by decide +kernel
theorem d_X_image_33 : decode m_X_image.2.1 33 = .ok (.getfield 23, 3) := by decide +kernel
theorem d_X_image_36 : decode m_X_image.2.1 36 = .ok (.iload_n 3, 1) := by decide +kernel
theorem d_X_image_37 : decode m_X_image.2.1 37 = .ok (.iaload, 1) := by decide +kernel
theorem d_X_image_38 : decode m_X_image.2.1 38 = .ok (.iastore, 1) := by decide +kernel
theorem d_X_image_39 : decode m_X_image.2.1 39 = .ok (.iinc 3 1, 3) := by decide +kernel
theorem d_X_image_42 : decode m_X_image.2.1 42 = .ok (.goto (-23), 3) := by decide +kernel
theorem d_X_image_45 : decode m_X_image.2.1 45 = .ok (.iconst 0, 1) := by decide +kernel
theorem d_X_image_46 : decode m_X_image.2.1 46 = .ok (.istore_n 3, 1) := by decide +kernel
theorem d_X_image_47 : decode m_X_image.2.1 47 = .ok (.iload_n 3, 1) := by decide +kernel
theorem d_X_image_48 : decode m_X_image.2.1 48 = .ok (.bipush 10, 2) := by decide +kernel
theorem d_X_image_50 : decode m_X_image.2.1 50 = .ok (.if_icmp .ge 26, 3) := by decide +kernel
theorem d_X_image_53 : decode m_X_image.2.1 53 = .ok (.aload_n 0, 1) := by decide +kernel
theorem d_X_image_54 : decode m_X_image.2.1 54 = .ok (.getfield 59, 3) := by decide +kernel
theorem d_X_image_57 : decode m_X_image.2.1 57 = .ok (.iload_n 2, 1) := by decide +kernel
theorem d_X_image_58 : decode m_X_image.2.1 58 = .ok (.bipush 50, 2) := by decide +kernel
theorem d_X_image_60 : decode m_X_image.2.1 60 = .ok (.iadd, 1) := by decide +kernel
theorem d_X_image_61 : decode m_X_image.2.1 61 = .ok (.iload_n 3, 1) := by decide +kernel
theorem d_X_image_62 : decode m_X_image.2.1 62 = .ok (.iadd, 1) := by decide +kernel
theorem d_X_image_63 : decode m_X_image.2.1 63 = .ok (.aload_n 0, 1) := by decide +kernel
theorem d_X_image_64 : decode m_X_image.2.1 64 = .ok (.getfield 26, 3) := by decide +kernel
theorem d_X_image_67 : decode m_X_image.2.1 67 = .ok (.iload_n 3, 1) := by decide +kernel
theorem d_X_image_68 : decode m_X_image.2.1 68 = .ok (.iaload, 1) := by decide +kernel
theorem d_X_image_69 : decode m_X_image.2.1 69 = .ok (.iastore, 1) := by decide +kernel
theorem d_X_image_70 : decode m_X_image.2.1 70 = .ok (.iinc 3 1, 3) := by decide +kernel
theorem d_X_image_73 : decode m_X_image.2.1 73 = .ok (.goto (-26), 3) := by decide +kernel
theorem d_X_image_76 : decode m_X_image.2.1 76 = .ok (.iconst 0, 1) := by decide +kernel
theorem d_X_image_77 : decode m_X_image.2.1 77 = .ok (.istore_n 3, 1) := by decide +kernel
theorem d_X_image_78 : decode m_X_image.2.1 78 = .ok (.iload_n 3, 1) := by decide +kernel
theorem d_X_image_79 : decode m_X_image.2.1 79 = .ok (.bipush 12, 2) := by decide +kernel
theorem d_X_image_81 : decode m_X_image.2.1 81 = .ok (.if_icmp .ge 26, 3) := by decide +kernel
theorem d_X_image_84 : decode m_X_image.2.1 84 = .ok (.aload_n 0, 1) := by decide +kernel
theorem d_X_image_85 : decode m_X_image.2.1 85 = .ok (.getfield 59, 3) := by decide +kernel
theorem d_X_image_88 : decode m_X_image.2.1 88 = .ok (.iload_n 2, 1) := by decide +kernel
theorem d_X_image_89 : decode m_X_image.2.1 89 = .ok (.bipush 60, 2) := by decide +kernel
theorem d_X_image_91 : decode m_X_image.2.1 91 = .ok (.iadd, 1) := by decide +kernel
theorem d_X_image_92 : decode m_X_image.2.1 92 = .ok (.iload_n 3, 1) := by decide +kernel
theorem d_X_image_93 : decode m_X_image.2.1 93 = .ok (.iadd, 1) := by decide +kernel
theorem d_X_image_94 : decode m_X_image.2.1 94 = .ok (.aload_n 0, 1) := by decide +kernel
theorem d_X_image_95 : decode m_X_image.2.1 95 = .ok (.getfield 29, 3) := by decide +kernel
theorem d_X_image_98 : decode m_X_image.2.1 98 = .ok (.iload_n 3, 1) := by decide +kernel
theorem d_X_image_99 : decode m_X_image.2.1 99 = .ok (.iaload, 1) := by decide +kernel
theorem d_X_image_100 : decode m_X_image.2.1 100 = .ok (.iastore, 1) := by decide +kernel
theorem d_X_image_101 : decode m_X_image.2.1 101 = .ok (.iinc 3 1, 3) := by decide +kernel
theorem d_X_image_104 : decode m_X_image.2.1 104 = .ok (.goto (-26), 3) := by decide +kernel
theorem d_X_image_107 : decode m_X_image.2.1 107 = .ok (.iconst 0, 1) := by decide +kernel
theorem d_X_image_108 : decode m_X_image.2.1 108 = .ok (.istore_n 3, 1) := by decide +kernel
theorem d_X_image_109 : decode m_X_image.2.1 109 = .ok (.iload_n 3, 1) := by decide +kernel
theorem d_X_image_110 : decode m_X_image.2.1 110 = .ok (.bipush 6, 2) := by decide +kernel
theorem d_X_image_112 : decode m_X_image.2.1 112 = .ok (.if_icmp .ge 26, 3) := by decide +kernel
theorem d_X_image_115 : decode m_X_image.2.1 115 = .ok (.aload_n 0, 1) := by decide +kernel
theorem d_X_image_116 : decode m_X_image.2.1 116 = .ok (.getfield 59, 3) := by decide +kernel
theorem d_X_image_119 : decode m_X_image.2.1 119 = .ok (.iload_n 2, 1) := by decide +kernel
theorem d_X_image_120 : decode m_X_image.2.1 120 = .ok (.bipush 72, 2) := by decide +kernel
theorem d_X_image_122 : decode m_X_image.2.1 122 = .ok (.iadd, 1) := by decide +kernel
theorem d_X_image_123 : decode m_X_image.2.1 123 = .ok (.iload_n 3, 1) := by decide +kernel
theorem d_X_image_124 : decode m_X_image.2.1 124 = .ok (.iadd, 1) := by decide +kernel
theorem d_X_image_125 : decode m_X_image.2.1 125 = .ok (.aload_n 0, 1) := by decide +kernel
theorem d_X_image_126 : decode m_X_image.2.1 126 = .ok (.getfield 16, 3) := by decide +kernel
theorem d_X_image_129 : decode m_X_image.2.1 129 = .ok (.iload_n 3, 1) := by decide +kernel
theorem d_X_image_130 : decode m_X_image.2.1 130 = .ok (.iaload, 1) := by decide +kernel
theorem d_X_image_131 : decode m_X_image.2.1 131 = .ok (.iastore, 1) := by decide +kernel
theorem d_X_image_132 : decode m_X_image.2.1 132 = .ok (.iinc 3 1, 3) := by decide +kernel
theorem d_X_image_135 : decode m_X_image.2.1 135 = .ok (.goto (-26), 3) := by decide +kernel
theorem d_X_image_138 : decode m_X_image.2.1 138 = .ok (.aload_n 0, 1) := by decide +kernel
theorem d_X_image_139 : decode m_X_image.2.1 139 = .ok (.getfield 59, 3) := by decide +kernel
theorem d_X_image_142 : decode m_X_image.2.1 142 = .ok (.iload_n 2, 1) := by decide +kernel
theorem d_X_image_143 : decode m_X_image.2.1 143 = .ok (.bipush 78, 2) := by decide +kernel
theorem d_X_image_145 : decode m_X_image.2.1 145 = .ok (.iadd, 1) := by decide +kernel
theorem d_X_image_146 : decode m_X_image.2.1 146 = .ok (.aload_n 0, 1) := by decide +kernel
theorem d_X_image_147 : decode m_X_image.2.1 147 = .ok (.getfield 70, 3) := by decide +kernel
theorem d_X_image_150 : decode m_X_image.2.1 150 = .ok (.iastore, 1) := by decide +kernel
theorem d_X_image_151 : decode m_X_image.2.1 151 = .ok (.aload_n 0, 1) := by decide +kernel
theorem d_X_image_152 : decode m_X_image.2.1 152 = .ok (.getfield 59, 3) := by decide +kernel
theorem d_X_image_155 : decode m_X_image.2.1 155 = .ok (.iload_n 2, 1) := by decide +kernel
theorem d_X_image_156 : decode m_X_image.2.1 156 = .ok (.bipush 79, 2) := by decide +kernel
theorem d_X_image_158 : decode m_X_image.2.1 158 = .ok (.iadd, 1) := by decide +kernel
theorem d_X_image_159 : decode m_X_image.2.1 159 = .ok (.aload_n 0, 1) := by decide +kernel
theorem d_X_image_160 : decode m_X_image.2.1 160 = .ok (.getfield 80, 3) := by decide +kernel
theorem d_X_image_163 : decode m_X_image.2.1 163 = .ok (.iastore, 1) := by decide +kernel
theorem d_X_image_164 : decode m_X_image.2.1 164 = .ok (.aload_n 0, 1) := by decide +kernel
theorem d_X_image_165 : decode m_X_image.2.1 165 = .ok (.getfield 59, 3) := by decide +kernel
theorem d_X_image_168 : decode m_X_image.2.1 168 = .ok (.iload_n 2, 1) := by decide +kernel
theorem d_X_image_169 : decode m_X_image.2.1 169 = .ok (.bipush 80, 2) := by decide +kernel
theorem d_X_image_171 : decode m_X_image.2.1 171 = .ok (.iadd, 1) := by decide +kernel
theorem d_X_image_172 : decode m_X_image.2.1 172 = .ok (.aload_n 0, 1) := by decide +kernel
theorem d_X_image_173 : decode m_X_image.2.1 173 = .ok (.getfield 7, 3) := by decide +kernel
theorem d_X_image_176 : decode m_X_image.2.1 176 = .ok (.iastore, 1) := by decide +kernel
theorem d_X_image_177 : decode m_X_image.2.1 177 = .ok (.aload_n 0, 1) := by decide +kernel
theorem d_X_image_178 : decode m_X_image.2.1 178 = .ok (.getfield 59, 3) := by decide +kernel
theorem d_X_image_181 : decode m_X_image.2.1 181 = .ok (.iload_n 2, 1) := by decide +kernel
theorem d_X_image_182 : decode m_X_image.2.1 182 = .ok (.bipush 81, 2) := by decide +kernel
theorem d_X_image_184 : decode m_X_image.2.1 184 = .ok (.iadd, 1) := by decide +kernel
theorem d_X_image_185 : decode m_X_image.2.1 185 = .ok (.aload_n 0, 1) := by decide +kernel
theorem d_X_image_186 : decode m_X_image.2.1 186 = .ok (.getfield 90, 3) := by decide +kernel
theorem d_X_image_189 : decode m_X_image.2.1 189 = .ok (.iastore, 1) := by decide +kernel
theorem d_X_image_190 : decode m_X_image.2.1 190 = .ok (.aload_n 0, 1) := by decide +kernel
theorem d_X_image_191 : decode m_X_image.2.1 191 = .ok (.getfield 59, 3) := by decide +kernel
theorem d_X_image_194 : decode m_X_image.2.1 194 = .ok (.iload_n 2, 1) := by decide +kernel
theorem d_X_image_195 : decode m_X_image.2.1 195 = .ok (.bipush 82, 2) := by decide +kernel
theorem d_X_image_197 : decode m_X_image.2.1 197 = .ok (.iadd, 1) := by decide +kernel
theorem d_X_image_198 : decode m_X_image.2.1 198 = .ok (.aload_n 0, 1) := by decide +kernel
theorem d_X_image_199 : decode m_X_image.2.1 199 = .ok (.getfield 13, 3) := by decide +kernel
theorem d_X_image_202 : decode m_X_image.2.1 202 = .ok (.iastore, 1) := by decide +kernel
theorem d_X_image_203 : decode m_X_image.2.1 203 = .ok (.aload_n 0, 1) := by decide +kernel
theorem d_X_image_204 : decode m_X_image.2.1 204 = .ok (.getfield 62, 3) := by decide +kernel
theorem d_X_image_207 : decode m_X_image.2.1 207 = .ok (.iload_n 1, 1) := by decide +kernel
theorem d_X_image_208 : decode m_X_image.2.1 208 = .ok (.iconst 1, 1) := by decide +kernel
theorem d_X_image_209 : decode m_X_image.2.1 209 = .ok (.bastore, 1) := by decide +kernel
theorem d_X_image_210 : decode m_X_image.2.1 210 = .ok (.iconst 1, 1) := by decide +kernel
theorem d_X_image_211 : decode m_X_image.2.1 211 = .ok (.ireturn, 1) := by decide +kernel
theorem d_X_in_0 : decode m_X_in.2.1 0 = .ok (.iload_n 0, 1) := by decide +kernel
theorem d_X_in_1 : decode m_X_in.2.1 1 = .ok (.iload_n 1, 1) := by decide +kernel
theorem d_X_in_2 : decode m_X_in.2.1 2 = .ok (.if_icmp .lt 12, 3) := by decide +kernel
theorem d_X_in_5 : decode m_X_in.2.1 5 = .ok (.iload_n 0, 1) := by decide +kernel
theorem d_X_in_6 : decode m_X_in.2.1 6 = .ok (.iload_n 2, 1) := by decide +kernel
theorem d_X_in_7 : decode m_X_in.2.1 7 = .ok (.if_icmp .gt 7, 3) := by decide +kernel
theorem d_X_in_10 : decode m_X_in.2.1 10 = .ok (.iconst 1, 1) := by decide +kernel
theorem d_X_in_11 : decode m_X_in.2.1 11 = .ok (.goto 4, 3) := by decide +kernel
theorem d_X_in_14 : decode m_X_in.2.1 14 = .ok (.iconst 0, 1) := by decide +kernel
theorem d_X_in_15 : decode m_X_in.2.1 15 = .ok (.ireturn, 1) := by decide +kernel
theorem d_X_init_0 : decode m_X_init.2.1 0 = .ok (.aload_n 0, 1) := by decide +kernel
theorem d_X_init_1 : decode m_X_init.2.1 1 = .ok (.invokespecial 1, 3) := by decide +kernel
theorem d_X_init_4 : decode m_X_init.2.1 4 = .ok (.aload_n 0, 1) := by decide +kernel
theorem d_X_init_5 : decode m_X_init.2.1 5 = .ok (.iconst 2, 1) := by decide +kernel
theorem d_X_init_6 : decode m_X_init.2.1 6 = .ok (.putfield 7, 3) := by decide +kernel
theorem d_X_init_9 : decode m_X_init.2.1 9 = .ok (.aload_n 0, 1) := by decide +kernel
theorem d_X_init_10 : decode m_X_init.2.1 10 = .ok (.iconst 1, 1) := by decide +kernel
theorem d_X_init_11 : decode m_X_init.2.1 11 = .ok (.putfield 13, 3) := by decide +kernel
theorem d_X_init_14 : decode m_X_init.2.1 14 = .ok (.aload_n 0, 1) := by decide +kernel
theorem d_X_init_15 : decode m_X_init.2.1 15 = .ok (.bipush 6, 2) := by decide +kernel
theorem d_X_init_17 : decode m_X_init.2.1 17 = .ok (.newarray .int, 2) := by decide +kernel
theorem d_X_init_19 : decode m_X_init.2.1 19 = .ok (.putfield 16, 3) := by decide +kernel
theorem d_X_init_22 : decode m_X_init.2.1 22 = .ok (.aload_n 0, 1) := by decide +kernel
theorem d_X_init_23 : decode m_X_init.2.1 23 = .ok (.bipush 60, 2) := by decide +kernel
theorem d_X_init_25 : decode m_X_init.2.1 25 = .ok (.newarray .int, 2) := by decide +kernel
theorem d_X_init_27 : decode m_X_init.2.1 27 = .ok (.putfield 20, 3) := by decide +kernel
theorem d_X_init_30 : decode m_X_init.2.1 30 = .ok (.aload_n 0, 1) := by decide +kernel
theorem d_X_init_31 : decode m_X_init.2.1 31 = .ok (.bipush 50, 2) := by decide +kernel
theorem d_X_init_33 : decode m_X_init.2.1 33 = .ok (.newarray .int, 2) := by decide +kernel
theorem d_X_init_35 : decode m_X_init.2.1 35 = .ok (.putfield 23, 3) := by decide +kernel
theorem d_X_init_38 : decode m_X_init.2.1 38 = .ok (.aload_n 0, 1) := by decide +kernel
theorem d_X_init_39 : decode m_X_init.2.1 39 = .ok (.bipush 10, 2) := by decide +kernel
theorem d_X_init_41 : decode m_X_init.2.1 41 = .ok (.newarray .int, 2) := by decide +kernel
theorem d_X_init_43 : decode m_X_init.2.1 43 = .ok (.putfield 26, 3) := by decide +kernel
theorem d_X_init_46 : decode m_X_init.2.1 46 = .ok (.aload_n 0, 1) := by decide +kernel
theorem d_X_init_47 : decode m_X_init.2.1 47 = .ok (.bipush 12, 2) := by decide +kernel
theorem d_X_init_49 : decode m_X_init.2.1 49 = .ok (.newarray .int, 2) := by decide +kernel
theorem d_X_init_51 : decode m_X_init.2.1 51 = .ok (.putfield 29, 3) := by decide +kernel
theorem d_X_init_54 : decode m_X_init.2.1 54 = .ok (.aload_n 0, 1) := by decide +kernel
theorem d_X_init_55 : decode m_X_init.2.1 55 = .ok (.bipush 10, 2) := by decide +kernel
theorem d_X_init_57 : decode m_X_init.2.1 57 = .ok (.newarray .int, 2) := by decide +kernel
theorem d_X_init_59 : decode m_X_init.2.1 59 = .ok (.putfield 32, 3) := by decide +kernel
theorem d_X_init_62 : decode m_X_init.2.1 62 = .ok (.aload_n 0, 1) := by decide +kernel
theorem d_X_init_63 : decode m_X_init.2.1 63 = .ok (.bipush 10, 2) := by decide +kernel
theorem d_X_init_65 : decode m_X_init.2.1 65 = .ok (.newarray .int, 2) := by decide +kernel
theorem d_X_init_67 : decode m_X_init.2.1 67 = .ok (.putfield 35, 3) := by decide +kernel
theorem d_X_init_70 : decode m_X_init.2.1 70 = .ok (.aload_n 0, 1) := by decide +kernel
theorem d_X_init_71 : decode m_X_init.2.1 71 = .ok (.bipush 10, 2) := by decide +kernel
theorem d_X_init_73 : decode m_X_init.2.1 73 = .ok (.newarray .int, 2) := by decide +kernel
theorem d_X_init_75 : decode m_X_init.2.1 75 = .ok (.putfield 38, 3) := by decide +kernel
theorem d_X_init_78 : decode m_X_init.2.1 78 = .ok (.aload_n 0, 1) := by decide +kernel
theorem d_X_init_79 : decode m_X_init.2.1 79 = .ok (.bipush 6, 2) := by decide +kernel
theorem d_X_init_81 : decode m_X_init.2.1 81 = .ok (.newarray .int, 2) := by decide +kernel
theorem d_X_init_83 : decode m_X_init.2.1 83 = .ok (.putfield 41, 3) := by decide +kernel
theorem d_X_init_86 : decode m_X_init.2.1 86 = .ok (.aload_n 0, 1) := by decide +kernel
theorem d_X_init_87 : decode m_X_init.2.1 87 = .ok (.bipush 6, 2) := by decide +kernel
theorem d_X_init_89 : decode m_X_init.2.1 89 = .ok (.newarray .int, 2) := by decide +kernel
theorem d_X_init_91 : decode m_X_init.2.1 91 = .ok (.putfield 44, 3) := by decide +kernel
theorem d_X_init_94 : decode m_X_init.2.1 94 = .ok (.aload_n 0, 1) := by decide +kernel
theorem d_X_init_95 : decode m_X_init.2.1 95 = .ok (.bipush 6, 2) := by decide +kernel
theorem d_X_init_97 : decode m_X_init.2.1 97 = .ok (.newarray .int, 2) := by decide +kernel
theorem d_X_init_99 : decode m_X_init.2.1 99 = .ok (.putfield 47, 3) := by decide +kernel
theorem d_X_init_102 : decode m_X_init.2.1 102 = .ok (.aload_n 0, 1) := by decide +kernel
theorem d_X_init_103 : decode m_X_init.2.1 103 = .ok (.bipush 10, 2) := by decide +kernel
theorem d_X_init_105 : decode m_X_init.2.1 105 = .ok (.newarray .int, 2) := by decide +kernel
theorem d_X_init_107 : decode m_X_init.2.1 107 = .ok (.putfield 50, 3) := by decide +kernel
theorem d_X_init_110 : decode m_X_init.2.1 110 = .ok (.aload_n 0, 1) := by decide +kernel
theorem d_X_init_111 : decode m_X_init.2.1 111 = .ok (.bipush 6, 2) := by decide +kernel
theorem d_X_init_113 : decode m_X_init.2.1 113 = .ok (.newarray .int, 2) := by decide +kernel
theorem d_X_init_115 : decode m_X_init.2.1 115 = .ok (.putfield 53, 3) := by decide +kernel
theorem d_X_init_118 : decode m_X_init.2.1 118 = .ok (.aload_n 0, 1) := by decide +kernel
theorem d_X_init_119 : decode m_X_init.2.1 119 = .ok (.bipush 6, 2) := by decide +kernel
theorem d_X_init_121 : decode m_X_init.2.1 121 = .ok (.newarray .int, 2) := by decide +kernel
theorem d_X_init_123 : decode m_X_init.2.1 123 = .ok (.putfield 56, 3) := by decide +kernel
theorem d_X_init_126 : decode m_X_init.2.1 126 = .ok (.aload_n 0, 1) := by decide +kernel
theorem d_X_init_127 : decode m_X_init.2.1 127 = .ok (.sipush 168, 3) := by decide +kernel
theorem d_X_init_130 : decode m_X_init.2.1 130 = .ok (.newarray .int, 2) := by decide +kernel
theorem d_X_init_132 : decode m_X_init.2.1 132 = .ok (.putfield 59, 3) := by decide +kernel
theorem d_X_init_135 : decode m_X_init.2.1 135 = .ok (.aload_n 0, 1) := by decide +kernel
theorem d_X_init_136 : decode m_X_init.2.1 136 = .ok (.iconst 2, 1) := by decide +kernel
theorem d_X_init_137 : decode m_X_init.2.1 137 = .ok (.newarray .boolean, 2) := by decide +kernel
theorem d_X_init_139 : decode m_X_init.2.1 139 = .ok (.putfield 62, 3) := by decide +kernel
theorem d_X_init_142 : decode m_X_init.2.1 142 = .ok (.iconst 0, 1) := by decide +kernel
theorem d_X_init_143 : decode m_X_init.2.1 143 = .ok (.istore_n 1, 1) := by decide +kernel
theorem d_X_init_144 : decode m_X_init.2.1 144 = .ok (.iload_n 1, 1) := by decide +kernel
theorem d_X_init_145 : decode m_X_init.2.1 145 = .ok (.bipush 6, 2) := by decide +kernel
theorem d_X_init_147 : decode m_X_init.2.1 147 = .ok (.if_icmp .ge 17, 3) := by decide +kernel
theorem d_X_init_150 : decode m_X_init.2.1 150 = .ok (.aload_n 0, 1) := by decide +kernel
theorem d_X_init_151 : decode m_X_init.2.1 151 = .ok (.getfield 16, 3) := by decide +kernel
theorem d_X_init_154 : decode m_X_init.2.1 154 = .ok (.iload_n 1, 1) := by decide +kernel
theorem d_X_init_155 : decode m_X_init.2.1 155 = .ok (.bipush (-6), 2) := by decide +kernel
theorem d_X_init_157 : decode m_X_init.2.1 157 = .ok (.iastore, 1) := by decide +kernel
theorem d_X_init_158 : decode m_X_init.2.1 158 = .ok (.iinc 1 1, 3) := by decide +kernel
theorem d_X_init_161 : decode m_X_init.2.1 161 = .ok (.goto (-17), 3) := by decide +kernel
theorem d_X_init_164 : decode m_X_init.2.1 164 = .ok (.return_, 1) := by decide +kernel
theorem d_X_isMan_0 : decode m_X_isMan.2.1 0 = .ok (.iload_n 0, 1) := by decide +kernel
theorem d_X_isMan_1 : decode m_X_isMan.2.1 1 = .ok (.iconst 0, 1) := by decide +kernel
theorem d_X_isMan_2 : decode m_X_isMan.2.1 2 = .ok (.iconst 5, 1) := by decide +kernel
theorem d_X_isMan_3 : decode m_X_isMan.2.1 3 = .ok (.invokestatic 66, 3) := by decide +kernel
theorem d_X_isMan_6 : decode m_X_isMan.2.1 6 = .ok (.ireturn, 1) := by decide +kernel
theorem d_X_isThing_0 : decode m_X_isThing.2.1 0 = .ok (.iload_n 1, 1) := by decide +kernel
theorem d_X_isThing_1 : decode m_X_isThing.2.1 1 = .ok (.iconst 0, 1) := by decide +kernel
theorem d_X_isThing_2 : decode m_X_isThing.2.1 2 = .ok (.aload_n 0, 1) := by decide +kernel
theorem d_X_isThing_3 : decode m_X_isThing.2.1 3 = .ok (.getfield 70, 3) := by decide +kernel
theorem d_X_isThing_6 : decode m_X_isThing.2.1 6 = .ok (.iconst 1, 1) := by decide +kernel
theorem d_X_isThing_7 : decode m_X_isThing.2.1 7 = .ok (.isub, 1) := by decide +kernel
theorem d_X_isThing_8 : decode m_X_isThing.2.1 8 = .ok (.invokestatic 66, 3) := by decide +kernel
theorem d_X_isThing_11 : decode m_X_isThing.2.1 11 = .ok (.ireturn, 1) := by decide +kernel
theorem d_X_join_0 : decode m_X_join.2.1 0 = .ok (.iload_n 1, 1) := by decide +kernel
theorem d_X_join_1 : decode m_X_join.2.1 1 = .ok (.invokestatic 87, 3) := by decide +kernel
theorem d_X_join_4 : decode m_X_join.2.1 4 = .ok (.ifCond .eq 15, 3) := by decide +kernel
theorem d_X_join_7 : decode m_X_join.2.1 7 = .ok (.iload_n 2, 1) := by decide +kernel
theorem d_X_join_8 : decode m_X_join.2.1 8 = .ok (.invokestatic 87, 3) := by decide +kernel
theorem d_X_join_11 : decode m_X_join.2.1 11 = .ok (.ifCond .eq 8, 3) := by decide +kernel
theorem d_X_join_14 : decode m_X_join.2.1 14 = .ok (.iload_n 1, 1) := by decide +kernel
theorem d_X_join_15 : decode m_X_join.2.1 15 = .ok (.iload_n 2, 1) := by decide +kernel
theorem d_X_join_16 : decode m_X_join.2.1 16 = .ok (.if_icmp .ne 5, 3) := by decide +kernel
theorem d_X_join_19 : decode m_X_join.2.1 19 = .ok (.iconst (-1), 1) := by decide +kernel
theorem d_X_join_20 : decode m_X_join.2.1 20 = .ok (.ireturn, 1) := by decide +kernel
theorem d_X_join_21 : decode m_X_join.2.1 21 = .ok (.aload_n 0, 1) := by decide +kernel
theorem d_X_join_22 : decode m_X_join.2.1 22 = .ok (.getfield 16, 3) := by decide +kernel
theorem d_X_join_25 : decode m_X_join.2.1 25 = .ok (.iload_n 1, 1) := by decide +kernel
theorem d_X_join_26 : decode m_X_join.2.1 26 = .ok (.iaload, 1) := by decide +kernel
theorem d_X_join_27 : decode m_X_join.2.1 27 = .ok (.ifCond .ge 12, 3) := by decide +kernel
theorem d_X_join_30 : decode m_X_join.2.1 30 = .ok (.aload_n 0, 1) := by decide +kernel
theorem d_X_join_31 : decode m_X_join.2.1 31 = .ok (.getfield 16, 3) := by decide +kernel
theorem d_X_join_34 : decode m_X_join.2.1 34 = .ok (.iload_n 2, 1) := by decide +kernel
theorem d_X_join_35 : decode m_X_join.2.1 35 = .ok (.iaload, 1) := by decide +kernel
theorem d_X_join_36 : decode m_X_join.2.1 36 = .ok (.ifCond .lt 6, 3) := by decide +kernel
theorem d_X_join_39 : decode m_X_join.2.1 39 = .ok (.bipush (-3), 2) := by decide +kernel
theorem d_X_join_41 : decode m_X_join.2.1 41 = .ok (.ireturn, 1) := by decide +kernel
theorem d_X_join_42 : decode m_X_join.2.1 42 = .ok (.aload_n 0, 1) := by decide +kernel
theorem d_X_join_43 : decode m_X_join.2.1 43 = .ok (.getfield 16, 3) := by decide +kernel
theorem d_X_join_46 : decode m_X_join.2.1 46 = .ok (.iload_n 1, 1) := by decide +kernel
theorem d_X_join_47 : decode m_X_join.2.1 47 = .ok (.iload_n 2, 1) := by decide +kernel
theorem d_X_join_48 : decode m_X_join.2.1 48 = .ok (.iastore, 1) := by decide +kernel
theorem d_X_join_49 : decode m_X_join.2.1 49 = .ok (.aload_n 0, 1) := by decide +kernel
theorem d_X_join_50 : decode m_X_join.2.1 50 = .ok (.getfield 16, 3) := by decide +kernel
theorem d_X_join_53 : decode m_X_join.2.1 53 = .ok (.iload_n 2, 1) := by decide +kernel
theorem d_X_join_54 : decode m_X_join.2.1 54 = .ok (.iload_n 1, 1) := by decide +kernel
theorem d_X_join_55 : decode m_X_join.2.1 55 = .ok (.iastore, 1) := by decide +kernel
theorem d_X_join_56 : decode m_X_join.2.1 56 = .ok (.iconst 1, 1) := by decide +kernel
theorem d_X_join_57 : decode m_X_join.2.1 57 = .ok (.ireturn, 1) := by decide +kernel
theorem d_X_lack_0 : decode m_X_lack.2.1 0 = .ok (.aload_n 0, 1) := by decide +kernel
theorem d_X_lack_1 : decode m_X_lack.2.1 1 = .ok (.invokevirtual 147, 3) := by decide +kernel
theorem d_X_lack_4 : decode m_X_lack.2.1 4 = .ok (.iconst 1, 1) := by decide +kernel
theorem d_X_lack_5 : decode m_X_lack.2.1 5 = .ok (.istore_n 1, 1) := by decide +kernel
theorem d_X_lack_6 : decode m_X_lack.2.1 6 = .ok (.iload_n 1, 1) := by decide +kernel
theorem d_X_lack_7 : decode m_X_lack.2.1 7 = .ok (.bipush 64, 2) := by decide +kernel
theorem d_X_lack_9 : decode m_X_lack.2.1 9 = .ok (.if_icmp .ge 99, 3) := by decide +kernel
theorem d_X_lack_12 : decode m_X_lack.2.1 12 = .ok (.iconst 0, 1) := by decide +kernel
theorem d_X_lack_13 : decode m_X_lack.2.1 13 = .ok (.istore_n 2, 1) := by decide +kernel
theorem d_X_lack_14 : decode m_X_lack.2.1 14 = .ok (.iconst 0, 1) := by decide +kernel
theorem d_X_lack_15 : decode m_X_lack.2.1 15 = .ok (.istore_n 3, 1) := by decide +kernel
theorem d_X_lack_16 : decode m_X_lack.2.1 16 = .ok (.iload_n 3, 1) := by decide +kernel
theorem d_X_lack_17 : decode m_X_lack.2.1 17 = .ok (.bipush 6, 2) := by decide +kernel
theorem d_X_lack_19 : decode m_X_lack.2.1 19 = .ok (.if_icmp .ge 30, 3) := by decide +kernel
theorem d_X_lack_22 : decode m_X_lack.2.1 22 = .ok (.iload_n 2, 1) := by decide +kernel
theorem d_X_lack_23 : decode m_X_lack.2.1 23 = .ok (.iload_n 1, 1) := by decide +kernel
theorem d_X_lack_24 : decode m_X_lack.2.1 24 = .ok (.iload_n 3, 1) := by decide +kernel
theorem d_X_lack_25 : decode m_X_lack.2.1 25 = .ok (.invokestatic 98, 3) := by decide +kernel
theorem d_X_lack_28 : decode m_X_lack.2.1 28 = .ok (.ifCond .eq 12, 3) := by decide +kernel
theorem d_X_lack_31 : decode m_X_lack.2.1 31 = .ok (.aload_n 0, 1) := by decide +kernel
theorem d_X_lack_32 : decode m_X_lack.2.1 32 = .ok (.getfield 41, 3) := by decide +kernel
theorem d_X_lack_35 : decode m_X_lack.2.1 35 = .ok (.iload_n 3, 1) := by decide +kernel
theorem d_X_lack_36 : decode m_X_lack.2.1 36 = .ok (.iaload, 1) := by decide +kernel
theorem d_X_lack_37 : decode m_X_lack.2.1 37 = .ok (.goto 4, 3) := by decide +kernel
theorem d_X_lack_40 : decode m_X_lack.2.1 40 = .ok (.iconst 0, 1) := by decide +kernel
theorem d_X_lack_41 : decode m_X_lack.2.1 41 = .ok (.ior, 1) := by decide +kernel
theorem d_X_lack_42 : decode m_X_lack.2.1 42 = .ok (.istore_n 2, 1) := by decide +kernel
theorem d_X_lack_43 : decode m_X_lack.2.1 43 = .ok (.iinc 3 1, 3) := by decide +kernel
theorem d_X_lack_46 : decode m_X_lack.2.1 46 = .ok (.goto (-30), 3) := by decide +kernel
theorem d_X_lack_49 : decode m_X_lack.2.1 49 = .ok (.iconst 0, 1) := by decide +kernel
theorem d_X_lack_50 : decode m_X_lack.2.1 50 = .ok (.istore_n 3, 1) := by decide +kernel
theorem d_X_lack_51 : decode m_X_lack.2.1 51 = .ok (.iconst 0, 1) := by decide +kernel
theorem d_X_lack_52 : decode m_X_lack.2.1 52 = .ok (.istore 4, 2) := by decide +kernel
theorem d_X_lack_54 : decode m_X_lack.2.1 54 = .ok (.iload 4, 2) := by decide +kernel
theorem d_X_lack_56 : decode m_X_lack.2.1 56 = .ok (.aload_n 0, 1) := by decide +kernel
theorem d_X_lack_57 : decode m_X_lack.2.1 57 = .ok (.getfield 70, 3) := by decide +kernel
theorem d_X_lack_60 : decode m_X_lack.2.1 60 = .ok (.if_icmp .ge 32, 3) := by decide +kernel
theorem d_X_lack_63 : decode m_X_lack.2.1 63 = .ok (.iload_n 3, 1) := by decide +kernel
theorem d_X_lack_64 : decode m_X_lack.2.1 64 = .ok (.iload_n 2, 1) := by decide +kernel
theorem d_X_lack_65 : decode m_X_lack.2.1 65 = .ok (.iload 4, 2) := by decide +kernel
theorem d_X_lack_67 : decode m_X_lack.2.1 67 = .ok (.invokestatic 98, 3) := by decide +kernel
theorem d_X_lack_70 : decode m_X_lack.2.1 70 = .ok (.ifCond .eq 13, 3) := by decide +kernel
theorem d_X_lack_73 : decode m_X_lack.2.1 73 = .ok (.aload_n 0, 1) := by decide +kernel
theorem d_X_lack_74 : decode m_X_lack.2.1 74 = .ok (.getfield 26, 3) := by decide +kernel
theorem d_X_lack_77 : decode m_X_lack.2.1 77 = .ok (.iload 4, 2) := by decide +kernel
theorem d_X_lack_79 : decode m_X_lack.2.1 79 = .ok (.iaload, 1) := by decide +kernel
theorem d_X_lack_80 : decode m_X_lack.2.1 80 = .ok (.goto 4, 3) := by decide +kernel
theorem d_X_lack_83 : decode m_X_lack.2.1 83 = .ok (.iconst 0, 1) := by decide +kernel
theorem d_X_lack_84 : decode m_X_lack.2.1 84 = .ok (.iadd, 1) := by decide +kernel
theorem d_X_lack_85 : decode m_X_lack.2.1 85 = .ok (.istore_n 3, 1) := by decide +kernel
theorem d_X_lack_86 : decode m_X_lack.2.1 86 = .ok (.iinc 4 1, 3) := by decide +kernel
theorem d_X_lack_89 : decode m_X_lack.2.1 89 = .ok (.goto (-35), 3) := by decide +kernel
theorem d_X_lack_92 : decode m_X_lack.2.1 92 = .ok (.iload_n 3, 1) := by decide +kernel
theorem d_X_lack_93 : decode m_X_lack.2.1 93 = .ok (.iload_n 1, 1) := by decide +kernel
theorem d_X_lack_94 : decode m_X_lack.2.1 94 = .ok (.invokestatic 109, 3) := by decide +kernel
theorem d_X_lack_97 : decode m_X_lack.2.1 97 = .ok (.if_icmp .ge 5, 3) := by decide +kernel
theorem d_X_lack_100 : decode m_X_lack.2.1 100 = .ok (.iload_n 1, 1) := by decide +kernel
theorem d_X_lack_101 : decode m_X_lack.2.1 101 = .ok (.ireturn, 1) := by decide +kernel
theorem d_X_lack_102 : decode m_X_lack.2.1 102 = .ok (.iinc 1 1, 3) := by decide +kernel
theorem d_X_lack_105 : decode m_X_lack.2.1 105 = .ok (.goto (-99), 3) := by decide +kernel
theorem d_X_lack_108 : decode m_X_lack.2.1 108 = .ok (.bipush (-6), 2) := by decide +kernel
theorem d_X_lack_110 : decode m_X_lack.2.1 110 = .ok (.ireturn, 1) := by decide +kernel
theorem d_X_layMays_0 : decode m_X_layMays.2.1 0 = .ok (.aload_n 0, 1) := by decide +kernel
theorem d_X_layMays_1 : decode m_X_layMays.2.1 1 = .ok (.invokevirtual 116, 3) := by decide +kernel
theorem d_X_layMays_4 : decode m_X_layMays.2.1 4 = .ok (.iconst 0, 1) := by decide +kernel
theorem d_X_layMays_5 : decode m_X_layMays.2.1 5 = .ok (.istore_n 1, 1) := by decide +kernel
theorem d_X_layMays_6 : decode m_X_layMays.2.1 6 = .ok (.iload_n 1, 1) := by decide +kernel
theorem d_X_layMays_7 : decode m_X_layMays.2.1 7 = .ok (.bipush 6, 2) := by decide +kernel
theorem d_X_layMays_9 : decode m_X_layMays.2.1 9 = .ok (.if_icmp .ge 20, 3) := by decide +kernel
theorem d_X_layMays_12 : decode m_X_layMays.2.1 12 = .ok (.aload_n 0, 1) := by decide +kernel
theorem d_X_layMays_13 : decode m_X_layMays.2.1 13 = .ok (.getfield 41, 3) := by decide +kernel
theorem d_X_layMays_16 : decode m_X_layMays.2.1 16 = .ok (.iload_n 1, 1) := by decide +kernel
theorem d_X_layMays_17 : decode m_X_layMays.2.1 17 = .ok (.aload_n 0, 1) := by decide +kernel
theorem d_X_layMays_18 : decode m_X_layMays.2.1 18 = .ok (.iload_n 1, 1) := by decide +kernel
theorem d_X_layMays_19 : decode m_X_layMays.2.1 19 = .ok (.invokevirtual 125, 3) := by decide +kernel
theorem d_X_layMays_22 : decode m_X_layMays.2.1 22 = .ok (.iastore, 1) := by decide +kernel
theorem d_X_layMays_23 : decode m_X_layMays.2.1 23 = .ok (.iinc 1 1, 3) := by decide +kernel
theorem d_X_layMays_26 : decode m_X_layMays.2.1 26 = .ok (.goto (-20), 3) := by decide +kernel
theorem d_X_layMays_29 : decode m_X_layMays.2.1 29 = .ok (.return_, 1) := by decide +kernel
theorem d_X_layPlan_0 : decode m_X_layPlan.2.1 0 = .ok (.iload_n 1, 1) := by decide +kernel
theorem d_X_layPlan_1 : decode m_X_layPlan.2.1 1 = .ok (.istore_n 2, 1) := by decide +kernel
theorem d_X_layPlan_2 : decode m_X_layPlan.2.1 2 = .ok (.iconst 0, 1) := by decide +kernel
theorem d_X_layPlan_3 : decode m_X_layPlan.2.1 3 = .ok (.istore_n 3, 1) := by decide +kernel
theorem d_X_layPlan_4 : decode m_X_layPlan.2.1 4 = .ok (.iconst 1, 1) := by decide +kernel
theorem d_X_layPlan_5 : decode m_X_layPlan.2.1 5 = .ok (.istore 4, 2) := by decide +kernel
theorem d_X_layPlan_7 : decode m_X_layPlan.2.1 7 = .ok (.iconst 5, 1) := by decide +kernel
theorem d_X_layPlan_8 : decode m_X_layPlan.2.1 8 = .ok (.istore 5, 2) := by decide +kernel
theorem d_X_layPlan_10 : decode m_X_layPlan.2.1 10 = .ok (.iload 5, 2) := by decide +kernel
theorem d_X_layPlan_12 : decode m_X_layPlan.2.1 12 = .ok (.ifCond .lt 25, 3) := by decide +kernel
theorem d_X_layPlan_15 : decode m_X_layPlan.2.1 15 = .ok (.aload_n 0, 1) := by decide +kernel
theorem d_X_layPlan_16 : decode m_X_layPlan.2.1 16 = .ok (.getfield 56, 3) := by decide +kernel
theorem d_X_layPlan_19 : decode m_X_layPlan.2.1 19 = .ok (.iload 5, 2) := by decide +kernel
theorem d_X_layPlan_21 : decode m_X_layPlan.2.1 21 = .ok (.iload_n 2, 1) := by decide +kernel
theorem d_X_layPlan_22 : decode m_X_layPlan.2.1 22 = .ok (.bipush 7, 2) := by decide +kernel
theorem d_X_layPlan_24 : decode m_X_layPlan.2.1 24 = .ok (.irem, 1) := by decide +kernel
theorem d_X_layPlan_25 : decode m_X_layPlan.2.1 25 = .ok (.iastore, 1) := by decide +kernel
theorem d_X_layPlan_26 : decode m_X_layPlan.2.1 26 = .ok (.iload_n 2, 1) := by decide +kernel
theorem d_X_layPlan_27 : decode m_X_layPlan.2.1 27 = .ok (.bipush 7, 2) := by decide +kernel
theorem d_X_layPlan_29 : decode m_X_layPlan.2.1 29 = .ok (.idiv, 1) := by decide +kernel
theorem d_X_layPlan_30 : decode m_X_layPlan.2.1 30 = .ok (.istore_n 2, 1) := by decide +kernel
theorem d_X_layPlan_31 : decode m_X_layPlan.2.1 31 = .ok (.iinc 5 (-1), 3) := by decide +kernel
theorem d_X_layPlan_34 : decode m_X_layPlan.2.1 34 = .ok (.goto (-24), 3) := by decide +kernel
theorem d_X_layPlan_37 : decode m_X_layPlan.2.1 37 = .ok (.iconst 0, 1) := by decide +kernel
theorem d_X_layPlan_38 : decode m_X_layPlan.2.1 38 = .ok (.istore 5, 2) := by decide +kernel
theorem d_X_layPlan_40 : decode m_X_layPlan.2.1 40 = .ok (.iload 5, 2) := by decide +kernel
theorem d_X_layPlan_42 : decode m_X_layPlan.2.1 42 = .ok (.bipush 6, 2) := by decide +kernel
theorem d_X_layPlan_44 : decode m_X_layPlan.2.1 44 = .ok (.if_icmp .ge 93, 3) := by decide +kernel
theorem d_X_layPlan_47 : decode m_X_layPlan.2.1 47 = .ok (.aload_n 0, 1) := by decide +kernel
theorem d_X_layPlan_48 : decode m_X_layPlan.2.1 48 = .ok (.getfield 56, 3) := by decide +kernel
theorem d_X_layPlan_51 : decode m_X_layPlan.2.1 51 = .ok (.iload 5, 2) := by decide +kernel
theorem d_X_layPlan_53 : decode m_X_layPlan.2.1 53 = .ok (.iaload, 1) := by decide +kernel
theorem d_X_layPlan_54 : decode m_X_layPlan.2.1 54 = .ok (.istore 6, 2) := by decide +kernel
theorem d_X_layPlan_56 : decode m_X_layPlan.2.1 56 = .ok (.iload 4, 2) := by decide +kernel
theorem d_X_layPlan_58 : decode m_X_layPlan.2.1 58 = .ok (.ifCond .eq 55, 3) := by decide +kernel
theorem d_X_layPlan_61 : decode m_X_layPlan.2.1 61 = .ok (.iload 6, 2) := by decide +kernel
theorem d_X_layPlan_63 : decode m_X_layPlan.2.1 63 = .ok (.iload 5, 2) := by decide +kernel
theorem d_X_layPlan_65 : decode m_X_layPlan.2.1 65 = .ok (.if_icmp .eq 48, 3) := by decide +kernel
theorem d_X_layPlan_68 : decode m_X_layPlan.2.1 68 = .ok (.iload 6, 2) := by decide +kernel
theorem d_X_layPlan_70 : decode m_X_layPlan.2.1 70 = .ok (.bipush 6, 2) := by decide +kernel
theorem d_X_layPlan_72 : decode m_X_layPlan.2.1 72 = .ok (.if_icmp .eq 15, 3) := by decide +kernel
theorem d_X_layPlan_75 : decode m_X_layPlan.2.1 75 = .ok (.aload_n 0, 1) := by decide +kernel
theorem d_X_layPlan_76 : decode m_X_layPlan.2.1 76 = .ok (.getfield 56, 3) := by decide +kernel
theorem d_X_layPlan_79 : decode m_X_layPlan.2.1 79 = .ok (.iload 6, 2) := by decide +kernel
theorem d_X_layPlan_81 : decode m_X_layPlan.2.1 81 = .ok (.iaload, 1) := by decide +kernel
theorem d_X_layPlan_82 : decode m_X_layPlan.2.1 82 = .ok (.iload 5, 2) := by decide +kernel
theorem d_X_layPlan_84 : decode m_X_layPlan.2.1 84 = .ok (.if_icmp .ne 29, 3) := by decide +kernel
theorem d_X_layPlan_87 : decode m_X_layPlan.2.1 87 = .ok (.aload_n 0, 1) := by decide +kernel
theorem d_X_layPlan_88 : decode m_X_layPlan.2.1 88 = .ok (.getfield 53, 3) := by decide +kernel
theorem d_X_layPlan_91 : decode m_X_layPlan.2.1 91 = .ok (.iload 5, 2) := by decide +kernel
theorem d_X_layPlan_93 : decode m_X_layPlan.2.1 93 = .ok (.iaload, 1) := by decide +kernel
theorem d_X_layPlan_94 : decode m_X_layPlan.2.1 94 = .ok (.ifCond .lt 15, 3) := by decide +kernel
theorem d_X_layPlan_97 : decode m_X_layPlan.2.1 97 = .ok (.iload 6, 2) := by decide +kernel
theorem d_X_layPlan_99 : decode m_X_layPlan.2.1 99 = .ok (.aload_n 0, 1) := by decide +kernel
theorem d_X_layPlan_100 : decode m_X_layPlan.2.1 100 = .ok (.getfield 53, 3) := by decide +kernel
theorem d_X_layPlan_103 : decode m_X_layPlan.2.1 103 = .ok (.iload 5, 2) := by decide +kernel
theorem d_X_layPlan_105 : decode m_X_layPlan.2.1 105 = .ok (.iaload, 1) := by decide +kernel
theorem d_X_layPlan_106 : decode m_X_layPlan.2.1 106 = .ok (.if_icmp .ne 7, 3) := by decide +kernel
theorem d_X_layPlan_109 : decode m_X_layPlan.2.1 109 = .ok (.iconst 1, 1) := by decide +kernel
theorem d_X_layPlan_110 : decode m_X_layPlan.2.1 110 = .ok (.goto 4, 3) := by decide +kernel
theorem d_X_layPlan_113 : decode m_X_layPlan.2.1 113 = .ok (.iconst 0, 1) := by decide +kernel
theorem d_X_layPlan_114 : decode m_X_layPlan.2.1 114 = .ok (.istore 4, 2) := by decide +kernel
theorem d_X_layPlan_116 : decode m_X_layPlan.2.1 116 = .ok (.iload_n 3, 1) := by decide +kernel
theorem d_X_layPlan_117 : decode m_X_layPlan.2.1 117 = .ok (.iload 6, 2) := by decide +kernel
theorem d_X_layPlan_119 : decode m_X_layPlan.2.1 119 = .ok (.bipush 6, 2) := by decide +kernel
theorem d_X_layPlan_121 : decode m_X_layPlan.2.1 121 = .ok (.if_icmp .ne 7, 3) := by decide +kernel
theorem d_X_layPlan_124 : decode m_X_layPlan.2.1 124 = .ok (.iconst 1, 1) := by decide +kernel
theorem d_X_layPlan_125 : decode m_X_layPlan.2.1 125 = .ok (.goto 4, 3) := by decide +kernel
theorem d_X_layPlan_128 : decode m_X_layPlan.2.1 128 = .ok (.iconst 0, 1) := by decide +kernel
theorem d_X_layPlan_129 : decode m_X_layPlan.2.1 129 = .ok (.iadd, 1) := by decide +kernel
theorem d_X_layPlan_130 : decode m_X_layPlan.2.1 130 = .ok (.istore_n 3, 1) := by decide +kernel
theorem d_X_layPlan_131 : decode m_X_layPlan.2.1 131 = .ok (.iinc 5 1, 3) := by decide +kernel
theorem d_X_layPlan_134 : decode m_X_layPlan.2.1 134 = .ok (.goto (-94), 3) := by decide +kernel
theorem d_X_layPlan_137 : decode m_X_layPlan.2.1 137 = .ok (.iload 4, 2) := by decide +kernel
theorem d_X_layPlan_139 : decode m_X_layPlan.2.1 139 = .ok (.ifCond .eq 12, 3) := by decide +kernel
theorem d_X_layPlan_142 : decode m_X_layPlan.2.1 142 = .ok (.iload_n 3, 1) := by decide +kernel
theorem d_X_layPlan_143 : decode m_X_layPlan.2.1 143 = .ok (.iconst 2, 1) := by decide +kernel
theorem d_X_layPlan_144 : decode m_X_layPlan.2.1 144 = .ok (.if_icmp .ge 7, 3) := by decide +kernel
theorem d_X_layPlan_147 : decode m_X_layPlan.2.1 147 = .ok (.iconst 1, 1) := by decide +kernel
theorem d_X_layPlan_148 : decode m_X_layPlan.2.1 148 = .ok (.goto 4, 3) := by decide +kernel
theorem d_X_layPlan_151 : decode m_X_layPlan.2.1 151 = .ok (.iconst 0, 1) := by decide +kernel
theorem d_X_layPlan_152 : decode m_X_layPlan.2.1 152 = .ok (.ireturn, 1) := by decide +kernel
theorem d_X_loaves_0 : decode m_X_loaves.2.1 0 = .ok (.aload_n 0, 1) := by decide +kernel
theorem d_X_loaves_1 : decode m_X_loaves.2.1 1 = .ok (.iload_n 1, 1) := by decide +kernel
theorem d_X_loaves_2 : decode m_X_loaves.2.1 2 = .ok (.invokevirtual 83, 3) := by decide +kernel
theorem d_X_loaves_5 : decode m_X_loaves.2.1 5 = .ok (.ifCond .ne 5, 3) := by decide +kernel
theorem d_X_loaves_8 : decode m_X_loaves.2.1 8 = .ok (.iconst (-1), 1) := by decide +kernel
theorem d_X_loaves_9 : decode m_X_loaves.2.1 9 = .ok (.ireturn, 1) := by decide +kernel
theorem d_X_loaves_10 : decode m_X_loaves.2.1 10 = .ok (.iload_n 2, 1) := by decide +kernel
theorem d_X_loaves_11 : decode m_X_loaves.2.1 11 = .ok (.iconst 0, 1) := by decide +kernel
theorem d_X_loaves_12 : decode m_X_loaves.2.1 12 = .ok (.bipush 9, 2) := by decide +kernel
theorem d_X_loaves_14 : decode m_X_loaves.2.1 14 = .ok (.invokestatic 66, 3) := by decide +kernel
theorem d_X_loaves_17 : decode m_X_loaves.2.1 17 = .ok (.ifCond .ne 6, 3) := by decide +kernel
theorem d_X_loaves_20 : decode m_X_loaves.2.1 20 = .ok (.bipush (-2), 2) := by decide +kernel
theorem d_X_loaves_22 : decode m_X_loaves.2.1 22 = .ok (.ireturn, 1) := by decide +kernel
theorem d_X_loaves_23 : decode m_X_loaves.2.1 23 = .ok (.aload_n 0, 1) := by decide +kernel
theorem d_X_loaves_24 : decode m_X_loaves.2.1 24 = .ok (.getfield 26, 3) := by decide +kernel
theorem d_X_loaves_27 : decode m_X_loaves.2.1 27 = .ok (.iload_n 1, 1) := by decide +kernel
theorem d_X_loaves_28 : decode m_X_loaves.2.1 28 = .ok (.iaload, 1) := by decide +kernel
theorem d_X_loaves_29 : decode m_X_loaves.2.1 29 = .ok (.istore_n 3, 1) := by decide +kernel
theorem d_X_loaves_30 : decode m_X_loaves.2.1 30 = .ok (.aload_n 0, 1) := by decide +kernel
theorem d_X_loaves_31 : decode m_X_loaves.2.1 31 = .ok (.getfield 26, 3) := by decide +kernel
theorem d_X_loaves_34 : decode m_X_loaves.2.1 34 = .ok (.iload_n 1, 1) := by decide +kernel
theorem d_X_loaves_35 : decode m_X_loaves.2.1 35 = .ok (.iload_n 2, 1) := by decide +kernel
theorem d_X_loaves_36 : decode m_X_loaves.2.1 36 = .ok (.iastore, 1) := by decide +kernel
theorem d_X_loaves_37 : decode m_X_loaves.2.1 37 = .ok (.iload_n 3, 1) := by decide +kernel
theorem d_X_loaves_38 : decode m_X_loaves.2.1 38 = .ok (.ireturn, 1) := by decide +kernel
theorem d_X_makers_0 : decode m_X_makers.2.1 0 = .ok (.iload_n 1, 1) := by decide +kernel
theorem d_X_makers_1 : decode m_X_makers.2.1 1 = .ok (.iconst 1, 1) := by decide +kernel
theorem d_X_makers_2 : decode m_X_makers.2.1 2 = .ok (.bipush 6, 2) := by decide +kernel
theorem d_X_makers_4 : decode m_X_makers.2.1 4 = .ok (.invokestatic 66, 3) := by decide +kernel
theorem d_X_makers_7 : decode m_X_makers.2.1 7 = .ok (.ifCond .eq 12, 3) := by decide +kernel
theorem d_X_makers_10 : decode m_X_makers.2.1 10 = .ok (.iload_n 2, 1) := by decide +kernel
theorem d_X_makers_11 : decode m_X_makers.2.1 11 = .ok (.iconst 0, 1) := by decide +kernel
theorem d_X_makers_12 : decode m_X_makers.2.1 12 = .ok (.iconst 1, 1) := by decide +kernel
theorem d_X_makers_13 : decode m_X_makers.2.1 13 = .ok (.invokestatic 66, 3) := by decide +kernel
theorem d_X_makers_16 : decode m_X_makers.2.1 16 = .ok (.ifCond .ne 6, 3) := by decide +kernel
theorem d_X_makers_19 : decode m_X_makers.2.1 19 = .ok (.bipush (-2), 2) := by decide +kernel
theorem d_X_makers_21 : decode m_X_makers.2.1 21 = .ok (.ireturn, 1) := by decide +kernel
theorem d_X_makers_22 : decode m_X_makers.2.1 22 = .ok (.bipush (-6), 2) := by decide +kernel
theorem d_X_makers_24 : decode m_X_makers.2.1 24 = .ok (.istore_n 3, 1) := by decide +kernel
theorem d_X_makers_25 : decode m_X_makers.2.1 25 = .ok (.iconst 0, 1) := by decide +kernel
theorem d_X_makers_26 : decode m_X_makers.2.1 26 = .ok (.istore 4, 2) := by decide +kernel
theorem d_X_makers_28 : decode m_X_makers.2.1 28 = .ok (.iload 4, 2) := by decide +kernel
theorem d_X_makers_30 : decode m_X_makers.2.1 30 = .ok (.bipush 64, 2) := by decide +kernel
theorem d_X_makers_32 : decode m_X_makers.2.1 32 = .ok (.if_icmp .ge 54, 3) := by decide +kernel
theorem d_X_makers_35 : decode m_X_makers.2.1 35 = .ok (.iload_n 3, 1) := by decide +kernel
theorem d_X_makers_36 : decode m_X_makers.2.1 36 = .ok (.ifCond .lt 15, 3) := by decide +kernel
theorem d_X_makers_39 : decode m_X_makers.2.1 39 = .ok (.iload 4, 2) := by decide +kernel
theorem d_X_makers_41 : decode m_X_makers.2.1 41 = .ok (.invokestatic 109, 3) := by decide +kernel
theorem d_X_makers_44 : decode m_X_makers.2.1 44 = .ok (.iload_n 3, 1) := by decide +kernel
theorem d_X_makers_45 : decode m_X_makers.2.1 45 = .ok (.invokestatic 109, 3) := by decide +kernel
theorem d_X_makers_48 : decode m_X_makers.2.1 48 = .ok (.if_icmp .ge 7, 3) := by decide +kernel
theorem d_X_makers_51 : decode m_X_makers.2.1 51 = .ok (.iconst 1, 1) := by decide +kernel
theorem d_X_makers_52 : decode m_X_makers.2.1 52 = .ok (.goto 4, 3) := by decide +kernel
theorem d_X_makers_55 : decode m_X_makers.2.1 55 = .ok (.iconst 0, 1) := by decide +kernel
theorem d_X_makers_56 : decode m_X_makers.2.1 56 = .ok (.istore 5, 2) := by decide +kernel
theorem d_X_makers_58 : decode m_X_makers.2.1 58 = .ok (.iload 5, 2) := by decide +kernel
theorem d_X_makers_60 : decode m_X_makers.2.1 60 = .ok (.ifCond .eq 18, 3) := by decide +kernel
theorem d_X_makers_63 : decode m_X_makers.2.1 63 = .ok (.aload_n 0, 1) := by decide +kernel
theorem d_X_makers_64 : decode m_X_makers.2.1 64 = .ok (.iload 4, 2) := by decide +kernel
theorem d_X_makers_66 : decode m_X_makers.2.1 66 = .ok (.iload_n 1, 1) := by decide +kernel
theorem d_X_makers_67 : decode m_X_makers.2.1 67 = .ok (.invokevirtual 150, 3) := by decide +kernel
theorem d_X_makers_70 : decode m_X_makers.2.1 70 = .ok (.ifCond .eq 8, 3) := by decide +kernel
theorem d_X_makers_73 : decode m_X_makers.2.1 73 = .ok (.iload 4, 2) := by decide +kernel
theorem d_X_makers_75 : decode m_X_makers.2.1 75 = .ok (.goto 4, 3) := by decide +kernel
theorem d_X_makers_78 : decode m_X_makers.2.1 78 = .ok (.iload_n 3, 1) := by decide +kernel
theorem d_X_makers_79 : decode m_X_makers.2.1 79 = .ok (.istore_n 3, 1) := by decide +kernel
theorem d_X_makers_80 : decode m_X_makers.2.1 80 = .ok (.iinc 4 1, 3) := by decide +kernel
theorem d_X_makers_83 : decode m_X_makers.2.1 83 = .ok (.goto (-55), 3) := by decide +kernel
theorem d_X_makers_86 : decode m_X_makers.2.1 86 = .ok (.iload_n 3, 1) := by decide +kernel
theorem d_X_makers_87 : decode m_X_makers.2.1 87 = .ok (.ifCond .lt 8, 3) := by decide +kernel
theorem d_X_makers_90 : decode m_X_makers.2.1 90 = .ok (.iload_n 2, 1) := by decide +kernel
theorem d_X_makers_91 : decode m_X_makers.2.1 91 = .ok (.iconst 1, 1) := by decide +kernel
theorem d_X_makers_92 : decode m_X_makers.2.1 92 = .ok (.if_icmp .ne 7, 3) := by decide +kernel
theorem d_X_makers_95 : decode m_X_makers.2.1 95 = .ok (.iload_n 3, 1) := by decide +kernel
theorem d_X_makers_96 : decode m_X_makers.2.1 96 = .ok (.goto 7, 3) := by decide +kernel
theorem d_X_makers_99 : decode m_X_makers.2.1 99 = .ok (.iload_n 3, 1) := by decide +kernel
theorem d_X_makers_100 : decode m_X_makers.2.1 100 = .ok (.invokestatic 109, 3) := by decide +kernel
theorem d_X_makers_103 : decode m_X_makers.2.1 103 = .ok (.ireturn, 1) := by decide +kernel
theorem d_X_manAt_0 : decode m_X_manAt.2.1 0 = .ok (.iload_n 1, 1) := by decide +kernel
theorem d_X_manAt_1 : decode m_X_manAt.2.1 1 = .ok (.istore_n 3, 1) := by decide +kernel
theorem d_X_manAt_2 : decode m_X_manAt.2.1 2 = .ok (.aload_n 0, 1) := by decide +kernel
theorem d_X_manAt_3 : decode m_X_manAt.2.1 3 = .ok (.invokevirtual 135, 3) := by decide +kernel
theorem d_X_manAt_6 : decode m_X_manAt.2.1 6 = .ok (.iconst 1, 1) := by decide +kernel
theorem d_X_manAt_7 : decode m_X_manAt.2.1 7 = .ok (.isub, 1) := by decide +kernel
theorem d_X_manAt_8 : decode m_X_manAt.2.1 8 = .ok (.istore 4, 2) := by decide +kernel
theorem d_X_manAt_10 : decode m_X_manAt.2.1 10 = .ok (.iload 4, 2) := by decide +kernel
theorem d_X_manAt_12 : decode m_X_manAt.2.1 12 = .ok (.iload_n 2, 1) := by decide +kernel
theorem d_X_manAt_13 : decode m_X_manAt.2.1 13 = .ok (.if_icmp .le 14, 3) := by decide +kernel
theorem d_X_manAt_16 : decode m_X_manAt.2.1 16 = .ok (.iload_n 3, 1) := by decide +kernel
theorem d_X_manAt_17 : decode m_X_manAt.2.1 17 = .ok (.bipush 6, 2) := by decide +kernel
theorem d_X_manAt_19 : decode m_X_manAt.2.1 19 = .ok (.idiv, 1) := by decide +kernel
theorem d_X_manAt_20 : decode m_X_manAt.2.1 20 = .ok (.istore_n 3, 1) := by decide +kernel
theorem d_X_manAt_21 : decode m_X_manAt.2.1 21 = .ok (.iinc 4 (-1), 3) := by decide +kernel
theorem d_X_manAt_24 : decode m_X_manAt.2.1 24 = .ok (.goto (-14), 3) := by decide +kernel
theorem d_X_manAt_27 : decode m_X_manAt.2.1 27 = .ok (.iload_n 3, 1) := by decide +kernel
theorem d_X_manAt_28 : decode m_X_manAt.2.1 28 = .ok (.bipush 6, 2) := by decide +kernel
theorem d_X_manAt_30 : decode m_X_manAt.2.1 30 = .ok (.irem, 1) := by decide +kernel
theorem d_X_manAt_31 : decode m_X_manAt.2.1 31 = .ok (.ireturn, 1) := by decide +kernel
theorem d_X_married_0 : decode m_X_married.2.1 0 = .ok (.aload_n 0, 1) := by decide +kernel
theorem d_X_married_1 : decode m_X_married.2.1 1 = .ok (.invokevirtual 116, 3) := by decide +kernel
theorem d_X_married_4 : decode m_X_married.2.1 4 = .ok (.aload_n 0, 1) := by decide +kernel
theorem d_X_married_5 : decode m_X_married.2.1 5 = .ok (.invokevirtual 153, 3) := by decide +kernel
theorem d_X_married_8 : decode m_X_married.2.1 8 = .ok (.istore_n 2, 1) := by decide +kernel
theorem d_X_married_9 : decode m_X_married.2.1 9 = .ok (.ldc 93, 2) := by decide +kernel
theorem d_X_married_11 : decode m_X_married.2.1 11 = .ok (.istore_n 3, 1) := by decide +kernel
theorem d_X_married_12 : decode m_X_married.2.1 12 = .ok (.iconst 0, 1) := by decide +kernel
theorem d_X_married_13 : decode m_X_married.2.1 13 = .ok (.istore 4, 2) := by decide +kernel
theorem d_X_married_15 : decode m_X_married.2.1 15 = .ok (.iload 4, 2) := by decide +kernel
theorem d_X_married_17 : decode m_X_married.2.1 17 = .ok (.bipush 6, 2) := by decide +kernel
theorem d_X_married_19 : decode m_X_married.2.1 19 = .ok (.if_icmp .ge 23, 3) := by decide +kernel
theorem d_X_married_22 : decode m_X_married.2.1 22 = .ok (.aload_n 0, 1) := by decide +kernel
theorem d_X_married_23 : decode m_X_married.2.1 23 = .ok (.getfield 53, 3) := by decide +kernel
theorem d_X_married_26 : decode m_X_married.2.1 26 = .ok (.iload 4, 2) := by decide +kernel
theorem d_X_married_28 : decode m_X_married.2.1 28 = .ok (.aload_n 0, 1) := by decide +kernel
theorem d_X_married_29 : decode m_X_married.2.1 29 = .ok (.getfield 16, 3) := by decide +kernel
theorem d_X_married_32 : decode m_X_married.2.1 32 = .ok (.iload 4, 2) := by decide +kernel
theorem d_X_married_34 : decode m_X_married.2.1 34 = .ok (.iaload, 1) := by decide +kernel
theorem d_X_married_35 : decode m_X_married.2.1 35 = .ok (.iastore, 1) := by decide +kernel
theorem d_X_married_36 : decode m_X_married.2.1 36 = .ok (.iinc 4 1, 3) := by decide +kernel
theorem d_X_married_39 : decode m_X_married.2.1 39 = .ok (.goto (-24), 3) := by decide +kernel
theorem d_X_married_42 : decode m_X_married.2.1 42 = .ok (.iconst 0, 1) := by decide +kernel
theorem d_X_married_43 : decode m_X_married.2.1 43 = .ok (.istore 4, 2) := by decide +kernel
theorem d_X_married_45 : decode m_X_married.2.1 45 = .ok (.iload 4, 2) := by decide +kernel
theorem d_X_married_47 : decode m_X_married.2.1 47 = .ok (.ldc 156, 2) := by decide +kernel
theorem d_X_married_49 : decode m_X_married.2.1 49 = .ok (.if_icmp .ge 120, 3) := by decide +kernel
theorem d_X_married_52 : decode m_X_married.2.1 52 = .ok (.aload_n 0, 1) := by decide +kernel
theorem d_X_married_53 : decode m_X_married.2.1 53 = .ok (.iload 4, 2) := by decide +kernel
theorem d_X_married_55 : decode m_X_married.2.1 55 = .ok (.invokevirtual 157, 3) := by decide +kernel
theorem d_X_married_58 : decode m_X_married.2.1 58 = .ok (.ifCond .eq 105, 3) := by decide +kernel
theorem d_X_married_61 : decode m_X_married.2.1 61 = .ok (.iconst 0, 1) := by decide +kernel
theorem d_X_married_62 : decode m_X_married.2.1 62 = .ok (.istore 5, 2) := by decide +kernel
theorem d_X_married_64 : decode m_X_married.2.1 64 = .ok (.iload 5, 2) := by decide +kernel
theorem d_X_married_66 : decode m_X_married.2.1 66 = .ok (.bipush 6, 2) := by decide +kernel
theorem d_X_married_68 : decode m_X_married.2.1 68 = .ok (.if_icmp .ge 40, 3) := by decide +kernel
theorem d_X_married_71 : decode m_X_married.2.1 71 = .ok (.aload_n 0, 1) := by decide +kernel
theorem d_X_married_72 : decode m_X_married.2.1 72 = .ok (.getfield 16, 3) := by decide +kernel
theorem d_X_married_75 : decode m_X_married.2.1 75 = .ok (.iload 5, 2) := by decide +kernel
theorem d_X_married_77 : decode m_X_married.2.1 77 = .ok (.aload_n 0, 1) := by decide +kernel
theorem d_X_married_78 : decode m_X_married.2.1 78 = .ok (.getfield 56, 3) := by decide +kernel
theorem d_X_married_81 : decode m_X_married.2.1 81 = .ok (.iload 5, 2) := by decide +kernel
theorem d_X_married_83 : decode m_X_married.2.1 83 = .ok (.iaload, 1) := by decide +kernel
theorem d_X_married_84 : decode m_X_married.2.1 84 = .ok (.bipush 6, 2) := by decide +kernel
theorem d_X_married_86 : decode m_X_married.2.1 86 = .ok (.if_icmp .ne 8, 3) := by decide +kernel
theorem d_X_married_89 : decode m_X_married.2.1 89 = .ok (.bipush (-6), 2) := by decide +kernel
theorem d_X_married_91 : decode m_X_married.2.1 91 = .ok (.goto 10, 3) := by decide +kernel
theorem d_X_married_94 : decode m_X_married.2.1 94 = .ok (.aload_n 0, 1) := by decide +kernel
theorem d_X_married_95 : decode m_X_married.2.1 95 = .ok (.getfield 56, 3) := by decide +kernel
theorem d_X_married_98 : decode m_X_married.2.1 98 = .ok (.iload 5, 2) := by decide +kernel
theorem d_X_married_100 : decode m_X_married.2.1 100 = .ok (.iaload, 1) := by decide +kernel
theorem d_X_married_101 : decode m_X_married.2.1 101 = .ok (.iastore, 1) := by decide +kernel
theorem d_X_married_102 : decode m_X_married.2.1 102 = .ok (.iinc 5 1, 3) := by decide +kernel
theorem d_X_married_105 : decode m_X_married.2.1 105 = .ok (.goto (-41), 3) := by decide +kernel
theorem d_X_married_108 : decode m_X_married.2.1 108 = .ok (.aload_n 0, 1) := by decide +kernel
theorem d_X_married_109 : decode m_X_married.2.1 109 = .ok (.invokevirtual 153, 3) := by decide +kernel
theorem d_X_married_112 : decode m_X_married.2.1 112 = .ok (.istore 5, 2) := by decide +kernel
theorem d_X_married_114 : decode m_X_married.2.1 114 = .ok (.iconst 0, 1) := by decide +kernel
theorem d_X_married_115 : decode m_X_married.2.1 115 = .ok (.istore 6, 2) := by decide +kernel
theorem d_X_married_117 : decode m_X_married.2.1 117 = .ok (.iload 6, 2) := by decide +kernel
theorem d_X_married_119 : decode m_X_married.2.1 119 = .ok (.bipush 6, 2) := by decide +kernel
theorem d_X_married_121 : decode m_X_married.2.1 121 = .ok (.if_icmp .ge 29, 3) := by decide +kernel
theorem d_X_married_124 : decode m_X_married.2.1 124 = .ok (.iload 5, 2) := by decide +kernel
theorem d_X_married_126 : decode m_X_married.2.1 126 = .ok (.iload_n 3, 1) := by decide +kernel
theorem d_X_married_127 : decode m_X_married.2.1 127 = .ok (.if_icmp .ge 23, 3) := by decide +kernel
theorem d_X_married_130 : decode m_X_married.2.1 130 = .ok (.aload_n 0, 1) := by decide +kernel
theorem d_X_married_131 : decode m_X_married.2.1 131 = .ok (.getfield 47, 3) := by decide +kernel
theorem d_X_married_134 : decode m_X_married.2.1 134 = .ok (.iload 6, 2) := by decide +kernel
theorem d_X_married_136 : decode m_X_married.2.1 136 = .ok (.aload_n 0, 1) := by decide +kernel
theorem d_X_married_137 : decode m_X_married.2.1 137 = .ok (.getfield 16, 3) := by decide +kernel
theorem d_X_married_140 : decode m_X_married.2.1 140 = .ok (.iload 6, 2) := by decide +kernel
theorem d_X_married_142 : decode m_X_married.2.1 142 = .ok (.iaload, 1) := by decide +kernel
theorem d_X_married_143 : decode m_X_married.2.1 143 = .ok (.iastore, 1) := by decide +kernel
theorem d_X_married_144 : decode m_X_married.2.1 144 = .ok (.iinc 6 1, 3) := by decide +kernel
theorem d_X_married_147 : decode m_X_married.2.1 147 = .ok (.goto (-30), 3) := by decide +kernel
theorem d_X_married_150 : decode m_X_married.2.1 150 = .ok (.iload 5, 2) := by decide +kernel
theorem d_X_married_152 : decode m_X_married.2.1 152 = .ok (.iload_n 3, 1) := by decide +kernel
theorem d_X_married_153 : decode m_X_married.2.1 153 = .ok (.if_icmp .ge 8, 3) := by decide +kernel
theorem d_X_married_156 : decode m_X_married.2.1 156 = .ok (.iload 5, 2) := by decide +kernel
theorem d_X_married_158 : decode m_X_married.2.1 158 = .ok (.goto 4, 3) := by decide +kernel
theorem d_X_married_161 : decode m_X_married.2.1 161 = .ok (.iload_n 3, 1) := by decide +kernel
theorem d_X_married_162 : decode m_X_married.2.1 162 = .ok (.istore_n 3, 1) := by decide +kernel
theorem d_X_married_163 : decode m_X_married.2.1 163 = .ok (.iinc 4 1, 3) := by decide +kernel
theorem d_X_married_166 : decode m_X_married.2.1 166 = .ok (.goto (-121), 3) := by decide +kernel
theorem d_X_married_169 : decode m_X_married.2.1 169 = .ok (.iconst 0, 1) := by decide +kernel
theorem d_X_married_170 : decode m_X_married.2.1 170 = .ok (.istore 4, 2) := by decide +kernel
theorem d_X_married_172 : decode m_X_married.2.1 172 = .ok (.iload 4, 2) := by decide +kernel
theorem d_X_married_174 : decode m_X_married.2.1 174 = .ok (.bipush 6, 2) := by decide +kernel
theorem d_X_married_176 : decode m_X_married.2.1 176 = .ok (.if_icmp .ge 23, 3) := by decide +kernel
theorem d_X_married_179 : decode m_X_married.2.1 179 = .ok (.aload_n 0, 1) := by decide +kernel
theorem d_X_married_180 : decode m_X_married.2.1 180 = .ok (.getfield 16, 3) := by decide +kernel
theorem d_X_married_183 : decode m_X_married.2.1 183 = .ok (.iload 4, 2) := by decide +kernel
theorem d_X_married_185 : decode m_X_married.2.1 185 = .ok (.aload_n 0, 1) := by decide +kernel
theorem d_X_married_186 : decode m_X_married.2.1 186 = .ok (.getfield 53, 3) := by decide +kernel
theorem d_X_married_189 : decode m_X_married.2.1 189 = .ok (.iload 4, 2) := by decide +kernel
theorem d_X_married_191 : decode m_X_married.2.1 191 = .ok (.iaload, 1) := by decide +kernel
theorem d_X_married_192 : decode m_X_married.2.1 192 = .ok (.iastore, 1) := by decide +kernel
theorem d_X_married_193 : decode m_X_married.2.1 193 = .ok (.iinc 4 1, 3) := by decide +kernel
theorem d_X_married_196 : decode m_X_married.2.1 196 = .ok (.goto (-24), 3) := by decide +kernel
theorem d_X_married_199 : decode m_X_married.2.1 199 = .ok (.iload_n 1, 1) := by decide +kernel
theorem d_X_married_200 : decode m_X_married.2.1 200 = .ok (.iconst (-1), 1) := by decide +kernel
theorem d_X_married_201 : decode m_X_married.2.1 201 = .ok (.if_icmp .ne 9, 3) := by decide +kernel
theorem d_X_married_204 : decode m_X_married.2.1 204 = .ok (.iload_n 3, 1) := by decide +kernel
theorem d_X_married_205 : decode m_X_married.2.1 205 = .ok (.iload_n 2, 1) := by decide +kernel
theorem d_X_married_206 : decode m_X_married.2.1 206 = .ok (.isub, 1) := by decide +kernel
theorem d_X_married_207 : decode m_X_married.2.1 207 = .ok (.goto 21, 3) := by decide +kernel
theorem d_X_married_210 : decode m_X_married.2.1 210 = .ok (.iload_n 1, 1) := by decide +kernel
theorem d_X_married_211 : decode m_X_married.2.1 211 = .ok (.invokestatic 87, 3) := by decide +kernel
theorem d_X_married_214 : decode m_X_married.2.1 214 = .ok (.ifCond .eq 12, 3) := by decide +kernel
theorem d_X_married_217 : decode m_X_married.2.1 217 = .ok (.aload_n 0, 1) := by decide +kernel
theorem d_X_married_218 : decode m_X_married.2.1 218 = .ok (.getfield 47, 3) := by decide +kernel
theorem d_X_married_221 : decode m_X_married.2.1 221 = .ok (.iload_n 1, 1) := by decide +kernel
theorem d_X_married_222 : decode m_X_married.2.1 222 = .ok (.iaload, 1) := by decide +kernel
theorem d_X_married_223 : decode m_X_married.2.1 223 = .ok (.goto 5, 3) := by decide +kernel
theorem d_X_married_226 : decode m_X_married.2.1 226 = .ok (.bipush (-6), 2) := by decide +kernel
theorem d_X_married_228 : decode m_X_married.2.1 228 = .ok (.ireturn, 1) := by decide +kernel
theorem d_X_may_0 : decode m_X_may.2.1 0 = .ok (.iload_n 1, 1) := by decide +kernel
theorem d_X_may_1 : decode m_X_may.2.1 1 = .ok (.invokestatic 87, 3) := by decide +kernel
theorem d_X_may_4 : decode m_X_may.2.1 4 = .ok (.ifCond .ne 5, 3) := by decide +kernel
theorem d_X_may_7 : decode m_X_may.2.1 7 = .ok (.iconst (-1), 1) := by decide +kernel
theorem d_X_may_8 : decode m_X_may.2.1 8 = .ok (.ireturn, 1) := by decide +kernel
theorem d_X_may_9 : decode m_X_may.2.1 9 = .ok (.iload_n 2, 1) := by decide +kernel
theorem d_X_may_10 : decode m_X_may.2.1 10 = .ok (.iconst 0, 1) := by decide +kernel
theorem d_X_may_11 : decode m_X_may.2.1 11 = .ok (.iconst 1, 1) := by decide +kernel
theorem d_X_may_12 : decode m_X_may.2.1 12 = .ok (.invokestatic 66, 3) := by decide +kernel
theorem d_X_may_15 : decode m_X_may.2.1 15 = .ok (.ifCond .ne 6, 3) := by decide +kernel
theorem d_X_may_18 : decode m_X_may.2.1 18 = .ok (.bipush (-2), 2) := by decide +kernel
theorem d_X_may_20 : decode m_X_may.2.1 20 = .ok (.ireturn, 1) := by decide +kernel
theorem d_X_may_21 : decode m_X_may.2.1 21 = .ok (.aload_n 0, 1) := by decide +kernel
theorem d_X_may_22 : decode m_X_may.2.1 22 = .ok (.invokevirtual 116, 3) := by decide +kernel
theorem d_X_may_25 : decode m_X_may.2.1 25 = .ok (.iconst 0, 1) := by decide +kernel
theorem d_X_may_26 : decode m_X_may.2.1 26 = .ok (.istore_n 3, 1) := by decide +kernel
theorem d_X_may_27 : decode m_X_may.2.1 27 = .ok (.iconst 0, 1) := by decide +kernel
theorem d_X_may_28 : decode m_X_may.2.1 28 = .ok (.istore 4, 2) := by decide +kernel
theorem d_X_may_30 : decode m_X_may.2.1 30 = .ok (.iload 4, 2) := by decide +kernel
theorem d_X_may_32 : decode m_X_may.2.1 32 = .ok (.aload_n 0, 1) := by decide +kernel
theorem d_X_may_33 : decode m_X_may.2.1 33 = .ok (.getfield 70, 3) := by decide +kernel
theorem d_X_may_36 : decode m_X_may.2.1 36 = .ok (.if_icmp .ge 33, 3) := by decide +kernel
theorem d_X_may_39 : decode m_X_may.2.1 39 = .ok (.iload_n 3, 1) := by decide +kernel
theorem d_X_may_40 : decode m_X_may.2.1 40 = .ok (.aload_n 0, 1) := by decide +kernel
theorem d_X_may_41 : decode m_X_may.2.1 41 = .ok (.iload 4, 2) := by decide +kernel
theorem d_X_may_43 : decode m_X_may.2.1 43 = .ok (.invokevirtual 102, 3) := by decide +kernel
theorem d_X_may_46 : decode m_X_may.2.1 46 = .ok (.iload_n 1, 1) := by decide +kernel
theorem d_X_may_47 : decode m_X_may.2.1 47 = .ok (.invokestatic 98, 3) := by decide +kernel
theorem d_X_may_50 : decode m_X_may.2.1 50 = .ok (.ifCond .eq 10, 3) := by decide +kernel
theorem d_X_may_53 : decode m_X_may.2.1 53 = .ok (.iconst 1, 1) := by decide +kernel
theorem d_X_may_54 : decode m_X_may.2.1 54 = .ok (.iload 4, 2) := by decide +kernel
theorem d_X_may_56 : decode m_X_may.2.1 56 = .ok (.ishl, 1) := by decide +kernel
theorem d_X_may_57 : decode m_X_may.2.1 57 = .ok (.goto 4, 3) := by decide +kernel
theorem d_X_may_60 : decode m_X_may.2.1 60 = .ok (.iconst 0, 1) := by decide +kernel
theorem d_X_may_61 : decode m_X_may.2.1 61 = .ok (.ior, 1) := by decide +kernel
theorem d_X_may_62 : decode m_X_may.2.1 62 = .ok (.istore_n 3, 1) := by decide +kernel
theorem d_X_may_63 : decode m_X_may.2.1 63 = .ok (.iinc 4 1, 3) := by decide +kernel
theorem d_X_may_66 : decode m_X_may.2.1 66 = .ok (.goto (-36), 3) := by decide +kernel
theorem d_X_may_69 : decode m_X_may.2.1 69 = .ok (.iload_n 2, 1) := by decide +kernel
theorem d_X_may_70 : decode m_X_may.2.1 70 = .ok (.ifCond .ne 11, 3) := by decide +kernel
theorem d_X_may_73 : decode m_X_may.2.1 73 = .ok (.aload_n 0, 1) := by decide +kernel
theorem d_X_may_74 : decode m_X_may.2.1 74 = .ok (.iload_n 1, 1) := by decide +kernel
theorem d_X_may_75 : decode m_X_may.2.1 75 = .ok (.invokevirtual 125, 3) := by decide +kernel
theorem d_X_may_78 : decode m_X_may.2.1 78 = .ok (.goto 4, 3) := by decide +kernel
theorem d_X_may_81 : decode m_X_may.2.1 81 = .ok (.iload_n 3, 1) := by decide +kernel
theorem d_X_may_82 : decode m_X_may.2.1 82 = .ok (.ireturn, 1) := by decide +kernel
theorem d_X_mayHave_0 : decode m_X_mayHave.2.1 0 = .ok (.iconst 0, 1) := by decide +kernel
theorem d_X_mayHave_1 : decode m_X_mayHave.2.1 1 = .ok (.istore_n 2, 1) := by decide +kernel
theorem d_X_mayHave_2 : decode m_X_mayHave.2.1 2 = .ok (.iconst 0, 1) := by decide +kernel
theorem d_X_mayHave_3 : decode m_X_mayHave.2.1 3 = .ok (.istore_n 3, 1) := by decide +kernel
theorem d_X_mayHave_4 : decode m_X_mayHave.2.1 4 = .ok (.iload_n 3, 1) := by decide +kernel
theorem d_X_mayHave_5 : decode m_X_mayHave.2.1 5 = .ok (.aload_n 0, 1) := by decide +kernel
theorem d_X_mayHave_6 : decode m_X_mayHave.2.1 6 = .ok (.getfield 70, 3) := by decide +kernel
theorem d_X_mayHave_9 : decode m_X_mayHave.2.1 9 = .ok (.if_icmp .ge 31, 3) := by decide +kernel
theorem d_X_mayHave_12 : decode m_X_mayHave.2.1 12 = .ok (.iload_n 2, 1) := by decide +kernel
theorem d_X_mayHave_13 : decode m_X_mayHave.2.1 13 = .ok (.aload_n 0, 1) := by decide +kernel
theorem d_X_mayHave_14 : decode m_X_mayHave.2.1 14 = .ok (.iload_n 3, 1) := by decide +kernel
theorem d_X_mayHave_15 : decode m_X_mayHave.2.1 15 = .ok (.invokevirtual 119, 3) := by decide +kernel
theorem d_X_mayHave_18 : decode m_X_mayHave.2.1 18 = .ok (.iload_n 1, 1) := by decide +kernel
theorem d_X_mayHave_19 : decode m_X_mayHave.2.1 19 = .ok (.invokestatic 98, 3) := by decide +kernel
theorem d_X_mayHave_22 : decode m_X_mayHave.2.1 22 = .ok (.ifCond .eq 7, 3) := by decide +kernel
theorem d_X_mayHave_25 : decode m_X_mayHave.2.1 25 = .ok (.iconst 0, 1) := by decide +kernel
theorem d_X_mayHave_26 : decode m_X_mayHave.2.1 26 = .ok (.goto 6, 3) := by decide +kernel
theorem d_X_mayHave_29 : decode m_X_mayHave.2.1 29 = .ok (.iconst 1, 1) := by decide +kernel
theorem d_X_mayHave_30 : decode m_X_mayHave.2.1 30 = .ok (.iload_n 3, 1) := by decide +kernel
theorem d_X_mayHave_31 : decode m_X_mayHave.2.1 31 = .ok (.ishl, 1) := by decide +kernel
theorem d_X_mayHave_32 : decode m_X_mayHave.2.1 32 = .ok (.ior, 1) := by decide +kernel
theorem d_X_mayHave_33 : decode m_X_mayHave.2.1 33 = .ok (.istore_n 2, 1) := by decide +kernel
theorem d_X_mayHave_34 : decode m_X_mayHave.2.1 34 = .ok (.iinc 3 1, 3) := by decide +kernel
theorem d_X_mayHave_37 : decode m_X_mayHave.2.1 37 = .ok (.goto (-33), 3) := by decide +kernel
theorem d_X_mayHave_40 : decode m_X_mayHave.2.1 40 = .ok (.iload_n 2, 1) := by decide +kernel
end
section
theorem d_X_mayHave_41 : decode m_X_mayHave.2.1 41 = .ok (.ireturn, 1) := by decide +kernel
theorem d_X_near_0 : decode m_X_near.2.1 0 = .ok (.aload_n 0, 1) := by decide +kernel
theorem d_X_near_1 : decode m_X_near.2.1 1 = .ok (.iload_n 1, 1) := by decide +kernel
theorem d_X_near_2 : decode m_X_near.2.1 2 = .ok (.invokevirtual 83, 3) := by decide +kernel
theorem d_X_near_5 : decode m_X_near.2.1 5 = .ok (.ifCond .eq 10, 3) := by decide +kernel
theorem d_X_near_8 : decode m_X_near.2.1 8 = .ok (.iload_n 2, 1) := by decide +kernel
theorem d_X_near_9 : decode m_X_near.2.1 9 = .ok (.invokestatic 87, 3) := by decide +kernel
theorem d_X_near_12 : decode m_X_near.2.1 12 = .ok (.ifCond .ne 5, 3) := by decide +kernel
theorem d_X_near_15 : decode m_X_near.2.1 15 = .ok (.iconst (-1), 1) := by decide +kernel
theorem d_X_near_16 : decode m_X_near.2.1 16 = .ok (.ireturn, 1) := by decide +kernel
theorem d_X_near_17 : decode m_X_near.2.1 17 = .ok (.aload_n 0, 1) := by decide +kernel
theorem d_X_near_18 : decode m_X_near.2.1 18 = .ok (.iload_n 1, 1) := by decide +kernel
theorem d_X_near_19 : decode m_X_near.2.1 19 = .ok (.iload_n 2, 1) := by decide +kernel
theorem d_X_near_20 : decode m_X_near.2.1 20 = .ok (.invokevirtual 128, 3) := by decide +kernel
theorem d_X_near_23 : decode m_X_near.2.1 23 = .ok (.istore_n 3, 1) := by decide +kernel
theorem d_X_near_24 : decode m_X_near.2.1 24 = .ok (.iload_n 3, 1) := by decide +kernel
theorem d_X_near_25 : decode m_X_near.2.1 25 = .ok (.ldc 93, 2) := by decide +kernel
theorem d_X_near_27 : decode m_X_near.2.1 27 = .ok (.if_icmp .ne 8, 3) := by decide +kernel
theorem d_X_near_30 : decode m_X_near.2.1 30 = .ok (.bipush (-6), 2) := by decide +kernel
theorem d_X_near_32 : decode m_X_near.2.1 32 = .ok (.goto 4, 3) := by decide +kernel
theorem d_X_near_35 : decode m_X_near.2.1 35 = .ok (.iload_n 3, 1) := by decide +kernel
theorem d_X_near_36 : decode m_X_near.2.1 36 = .ok (.ireturn, 1) := by decide +kernel
theorem d_X_nearTo_0 : decode m_X_nearTo.2.1 0 = .ok (.aload_n 0, 1) := by decide +kernel
theorem d_X_nearTo_1 : decode m_X_nearTo.2.1 1 = .ok (.iload_n 1, 1) := by decide +kernel
theorem d_X_nearTo_2 : decode m_X_nearTo.2.1 2 = .ok (.invokevirtual 94, 3) := by decide +kernel
theorem d_X_nearTo_5 : decode m_X_nearTo.2.1 5 = .ok (.ldc 93, 2) := by decide +kernel
theorem d_X_nearTo_7 : decode m_X_nearTo.2.1 7 = .ok (.istore_n 3, 1) := by decide +kernel
theorem d_X_nearTo_8 : decode m_X_nearTo.2.1 8 = .ok (.iconst 0, 1) := by decide +kernel
theorem d_X_nearTo_9 : decode m_X_nearTo.2.1 9 = .ok (.istore 4, 2) := by decide +kernel
theorem d_X_nearTo_11 : decode m_X_nearTo.2.1 11 = .ok (.iload 4, 2) := by decide +kernel
theorem d_X_nearTo_13 : decode m_X_nearTo.2.1 13 = .ok (.iload_n 1, 1) := by decide +kernel
theorem d_X_nearTo_14 : decode m_X_nearTo.2.1 14 = .ok (.if_icmp .gt 48, 3) := by decide +kernel
theorem d_X_nearTo_17 : decode m_X_nearTo.2.1 17 = .ok (.aload_n 0, 1) := by decide +kernel
theorem d_X_nearTo_18 : decode m_X_nearTo.2.1 18 = .ok (.getfield 23, 3) := by decide +kernel
theorem d_X_nearTo_21 : decode m_X_nearTo.2.1 21 = .ok (.iconst 5, 1) := by decide +kernel
theorem d_X_nearTo_22 : decode m_X_nearTo.2.1 22 = .ok (.iload 4, 2) := by decide +kernel
theorem d_X_nearTo_24 : decode m_X_nearTo.2.1 24 = .ok (.imul, 1) := by decide +kernel
theorem d_X_nearTo_25 : decode m_X_nearTo.2.1 25 = .ok (.iaload, 1) := by decide +kernel
theorem d_X_nearTo_26 : decode m_X_nearTo.2.1 26 = .ok (.iload_n 2, 1) := by decide +kernel
theorem d_X_nearTo_27 : decode m_X_nearTo.2.1 27 = .ok (.invokestatic 98, 3) := by decide +kernel
theorem d_X_nearTo_30 : decode m_X_nearTo.2.1 30 = .ok (.ifCond .eq 24, 3) := by decide +kernel
theorem d_X_nearTo_33 : decode m_X_nearTo.2.1 33 = .ok (.aload_n 0, 1) := by decide +kernel
theorem d_X_nearTo_34 : decode m_X_nearTo.2.1 34 = .ok (.getfield 35, 3) := by decide +kernel
theorem d_X_nearTo_37 : decode m_X_nearTo.2.1 37 = .ok (.iload 4, 2) := by decide +kernel
theorem d_X_nearTo_39 : decode m_X_nearTo.2.1 39 = .ok (.iaload, 1) := by decide +kernel
theorem d_X_nearTo_40 : decode m_X_nearTo.2.1 40 = .ok (.iload_n 3, 1) := by decide +kernel
theorem d_X_nearTo_41 : decode m_X_nearTo.2.1 41 = .ok (.if_icmp .ge 13, 3) := by decide +kernel
theorem d_X_nearTo_44 : decode m_X_nearTo.2.1 44 = .ok (.aload_n 0, 1) := by decide +kernel
theorem d_X_nearTo_45 : decode m_X_nearTo.2.1 45 = .ok (.getfield 35, 3) := by decide +kernel
theorem d_X_nearTo_48 : decode m_X_nearTo.2.1 48 = .ok (.iload 4, 2) := by decide +kernel
theorem d_X_nearTo_50 : decode m_X_nearTo.2.1 50 = .ok (.iaload, 1) := by decide +kernel
theorem d_X_nearTo_51 : decode m_X_nearTo.2.1 51 = .ok (.goto 4, 3) := by decide +kernel
theorem d_X_nearTo_54 : decode m_X_nearTo.2.1 54 = .ok (.iload_n 3, 1) := by decide +kernel
theorem d_X_nearTo_55 : decode m_X_nearTo.2.1 55 = .ok (.istore_n 3, 1) := by decide +kernel
theorem d_X_nearTo_56 : decode m_X_nearTo.2.1 56 = .ok (.iinc 4 1, 3) := by decide +kernel
theorem d_X_nearTo_59 : decode m_X_nearTo.2.1 59 = .ok (.goto (-48), 3) := by decide +kernel
theorem d_X_nearTo_62 : decode m_X_nearTo.2.1 62 = .ok (.iload_n 3, 1) := by decide +kernel
theorem d_X_nearTo_63 : decode m_X_nearTo.2.1 63 = .ok (.ireturn, 1) := by decide +kernel
theorem d_X_opens_0 : decode m_X_opens.2.1 0 = .ok (.iconst 0, 1) := by decide +kernel
theorem d_X_opens_1 : decode m_X_opens.2.1 1 = .ok (.istore_n 1, 1) := by decide +kernel
theorem d_X_opens_2 : decode m_X_opens.2.1 2 = .ok (.iconst 0, 1) := by decide +kernel
theorem d_X_opens_3 : decode m_X_opens.2.1 3 = .ok (.istore_n 2, 1) := by decide +kernel
theorem d_X_opens_4 : decode m_X_opens.2.1 4 = .ok (.iload_n 2, 1) := by decide +kernel
theorem d_X_opens_5 : decode m_X_opens.2.1 5 = .ok (.aload_n 0, 1) := by decide +kernel
theorem d_X_opens_6 : decode m_X_opens.2.1 6 = .ok (.getfield 70, 3) := by decide +kernel
theorem d_X_opens_9 : decode m_X_opens.2.1 9 = .ok (.if_icmp .ge 22, 3) := by decide +kernel
theorem d_X_opens_12 : decode m_X_opens.2.1 12 = .ok (.iload_n 1, 1) := by decide +kernel
theorem d_X_opens_13 : decode m_X_opens.2.1 13 = .ok (.aload_n 0, 1) := by decide +kernel
theorem d_X_opens_14 : decode m_X_opens.2.1 14 = .ok (.getfield 23, 3) := by decide +kernel
theorem d_X_opens_17 : decode m_X_opens.2.1 17 = .ok (.iconst 5, 1) := by decide +kernel
theorem d_X_opens_18 : decode m_X_opens.2.1 18 = .ok (.iload_n 2, 1) := by decide +kernel
theorem d_X_opens_19 : decode m_X_opens.2.1 19 = .ok (.imul, 1) := by decide +kernel
theorem d_X_opens_20 : decode m_X_opens.2.1 20 = .ok (.iconst 4, 1) := by decide +kernel
theorem d_X_opens_21 : decode m_X_opens.2.1 21 = .ok (.iadd, 1) := by decide +kernel
theorem d_X_opens_22 : decode m_X_opens.2.1 22 = .ok (.iaload, 1) := by decide +kernel
theorem d_X_opens_23 : decode m_X_opens.2.1 23 = .ok (.iadd, 1) := by decide +kernel
theorem d_X_opens_24 : decode m_X_opens.2.1 24 = .ok (.istore_n 1, 1) := by decide +kernel
theorem d_X_opens_25 : decode m_X_opens.2.1 25 = .ok (.iinc 2 1, 3) := by decide +kernel
theorem d_X_opens_28 : decode m_X_opens.2.1 28 = .ok (.goto (-24), 3) := by decide +kernel
theorem d_X_opens_31 : decode m_X_opens.2.1 31 = .ok (.iload_n 1, 1) := by decide +kernel
theorem d_X_opens_32 : decode m_X_opens.2.1 32 = .ok (.ireturn, 1) := by decide +kernel
theorem d_X_part_0 : decode m_X_part.2.1 0 = .ok (.iload_n 1, 1) := by decide +kernel
theorem d_X_part_1 : decode m_X_part.2.1 1 = .ok (.invokestatic 87, 3) := by decide +kernel
theorem d_X_part_4 : decode m_X_part.2.1 4 = .ok (.ifCond .ne 5, 3) := by decide +kernel
theorem d_X_part_7 : decode m_X_part.2.1 7 = .ok (.iconst (-1), 1) := by decide +kernel
theorem d_X_part_8 : decode m_X_part.2.1 8 = .ok (.ireturn, 1) := by decide +kernel
theorem d_X_part_9 : decode m_X_part.2.1 9 = .ok (.aload_n 0, 1) := by decide +kernel
theorem d_X_part_10 : decode m_X_part.2.1 10 = .ok (.getfield 16, 3) := by decide +kernel
theorem d_X_part_13 : decode m_X_part.2.1 13 = .ok (.iload_n 1, 1) := by decide +kernel
theorem d_X_part_14 : decode m_X_part.2.1 14 = .ok (.iaload, 1) := by decide +kernel
theorem d_X_part_15 : decode m_X_part.2.1 15 = .ok (.istore_n 2, 1) := by decide +kernel
theorem d_X_part_16 : decode m_X_part.2.1 16 = .ok (.iload_n 2, 1) := by decide +kernel
theorem d_X_part_17 : decode m_X_part.2.1 17 = .ok (.ifCond .lt 19, 3) := by decide +kernel
theorem d_X_part_20 : decode m_X_part.2.1 20 = .ok (.aload_n 0, 1) := by decide +kernel
theorem d_X_part_21 : decode m_X_part.2.1 21 = .ok (.getfield 16, 3) := by decide +kernel
theorem d_X_part_24 : decode m_X_part.2.1 24 = .ok (.iload_n 2, 1) := by decide +kernel
theorem d_X_part_25 : decode m_X_part.2.1 25 = .ok (.bipush (-6), 2) := by decide +kernel
theorem d_X_part_27 : decode m_X_part.2.1 27 = .ok (.iastore, 1) := by decide +kernel
theorem d_X_part_28 : decode m_X_part.2.1 28 = .ok (.aload_n 0, 1) := by decide +kernel
theorem d_X_part_29 : decode m_X_part.2.1 29 = .ok (.getfield 16, 3) := by decide +kernel
theorem d_X_part_32 : decode m_X_part.2.1 32 = .ok (.iload_n 1, 1) := by decide +kernel
theorem d_X_part_33 : decode m_X_part.2.1 33 = .ok (.bipush (-6), 2) := by decide +kernel
theorem d_X_part_35 : decode m_X_part.2.1 35 = .ok (.iastore, 1) := by decide +kernel
theorem d_X_part_36 : decode m_X_part.2.1 36 = .ok (.iload_n 2, 1) := by decide +kernel
theorem d_X_part_37 : decode m_X_part.2.1 37 = .ok (.ireturn, 1) := by decide +kernel
theorem d_X_restore_0 : decode m_X_restore.2.1 0 = .ok (.iload_n 1, 1) := by decide +kernel
theorem d_X_restore_1 : decode m_X_restore.2.1 1 = .ok (.iconst 0, 1) := by decide +kernel
theorem d_X_restore_2 : decode m_X_restore.2.1 2 = .ok (.iconst 1, 1) := by decide +kernel
theorem d_X_restore_3 : decode m_X_restore.2.1 3 = .ok (.invokestatic 66, 3) := by decide +kernel
theorem d_X_restore_6 : decode m_X_restore.2.1 6 = .ok (.ifCond .ne 6, 3) := by decide +kernel
theorem d_X_restore_9 : decode m_X_restore.2.1 9 = .ok (.bipush (-2), 2) := by decide +kernel
theorem d_X_restore_11 : decode m_X_restore.2.1 11 = .ok (.ireturn, 1) := by decide +kernel
theorem d_X_restore_12 : decode m_X_restore.2.1 12 = .ok (.aload_n 0, 1) := by decide +kernel
theorem d_X_restore_13 : decode m_X_restore.2.1 13 = .ok (.getfield 62, 3) := by decide +kernel
theorem d_X_restore_16 : decode m_X_restore.2.1 16 = .ok (.iload_n 1, 1) := by decide +kernel
theorem d_X_restore_17 : decode m_X_restore.2.1 17 = .ok (.baload, 1) := by decide +kernel
theorem d_X_restore_18 : decode m_X_restore.2.1 18 = .ok (.ifCond .ne 6, 3) := by decide +kernel
theorem d_X_restore_21 : decode m_X_restore.2.1 21 = .ok (.bipush (-3), 2) := by decide +kernel
theorem d_X_restore_23 : decode m_X_restore.2.1 23 = .ok (.ireturn, 1) := by decide +kernel
theorem d_X_restore_24 : decode m_X_restore.2.1 24 = .ok (.bipush 84, 2) := by decide +kernel
theorem d_X_restore_26 : decode m_X_restore.2.1 26 = .ok (.iload_n 1, 1) := by decide +kernel
theorem d_X_restore_27 : decode m_X_restore.2.1 27 = .ok (.imul, 1) := by decide +kernel
theorem d_X_restore_28 : decode m_X_restore.2.1 28 = .ok (.istore_n 2, 1) := by decide +kernel
theorem d_X_restore_29 : decode m_X_restore.2.1 29 = .ok (.iconst 0, 1) := by decide +kernel
theorem d_X_restore_30 : decode m_X_restore.2.1 30 = .ok (.istore_n 3, 1) := by decide +kernel
theorem d_X_restore_31 : decode m_X_restore.2.1 31 = .ok (.iload_n 3, 1) := by decide +kernel
theorem d_X_restore_32 : decode m_X_restore.2.1 32 = .ok (.bipush 50, 2) := by decide +kernel
theorem d_X_restore_34 : decode m_X_restore.2.1 34 = .ok (.if_icmp .ge 23, 3) := by decide +kernel
theorem d_X_restore_37 : decode m_X_restore.2.1 37 = .ok (.aload_n 0, 1) := by decide +kernel
theorem d_X_restore_38 : decode m_X_restore.2.1 38 = .ok (.getfield 23, 3) := by decide +kernel
theorem d_X_restore_41 : decode m_X_restore.2.1 41 = .ok (.iload_n 3, 1) := by decide +kernel
theorem d_X_restore_42 : decode m_X_restore.2.1 42 = .ok (.aload_n 0, 1) := by decide +kernel
theorem d_X_restore_43 : decode m_X_restore.2.1 43 = .ok (.getfield 59, 3) := by decide +kernel
theorem d_X_restore_46 : decode m_X_restore.2.1 46 = .ok (.iload_n 2, 1) := by decide +kernel
theorem d_X_restore_47 : decode m_X_restore.2.1 47 = .ok (.iload_n 3, 1) := by decide +kernel
theorem d_X_restore_48 : decode m_X_restore.2.1 48 = .ok (.iadd, 1) := by decide +kernel
theorem d_X_restore_49 : decode m_X_restore.2.1 49 = .ok (.iaload, 1) := by decide +kernel
theorem d_X_restore_50 : decode m_X_restore.2.1 50 = .ok (.iastore, 1) := by decide +kernel
theorem d_X_restore_51 : decode m_X_restore.2.1 51 = .ok (.iinc 3 1, 3) := by decide +kernel
theorem d_X_restore_54 : decode m_X_restore.2.1 54 = .ok (.goto (-23), 3) := by decide +kernel
theorem d_X_restore_57 : decode m_X_restore.2.1 57 = .ok (.iconst 0, 1) := by decide +kernel
theorem d_X_restore_58 : decode m_X_restore.2.1 58 = .ok (.istore_n 3, 1) := by decide +kernel
theorem d_X_restore_59 : decode m_X_restore.2.1 59 = .ok (.iload_n 3, 1) := by decide +kernel
theorem d_X_restore_60 : decode m_X_restore.2.1 60 = .ok (.bipush 10, 2) := by decide +kernel
theorem d_X_restore_62 : decode m_X_restore.2.1 62 = .ok (.if_icmp .ge 26, 3) := by decide +kernel
theorem d_X_restore_65 : decode m_X_restore.2.1 65 = .ok (.aload_n 0, 1) := by decide +kernel
theorem d_X_restore_66 : decode m_X_restore.2.1 66 = .ok (.getfield 26, 3) := by decide +kernel
theorem d_X_restore_69 : decode m_X_restore.2.1 69 = .ok (.iload_n 3, 1) := by decide +kernel
theorem d_X_restore_70 : decode m_X_restore.2.1 70 = .ok (.aload_n 0, 1) := by decide +kernel
theorem d_X_restore_71 : decode m_X_restore.2.1 71 = .ok (.getfield 59, 3) := by decide +kernel
theorem d_X_restore_74 : decode m_X_restore.2.1 74 = .ok (.iload_n 2, 1) := by decide +kernel
theorem d_X_restore_75 : decode m_X_restore.2.1 75 = .ok (.bipush 50, 2) := by decide +kernel
theorem d_X_restore_77 : decode m_X_restore.2.1 77 = .ok (.iadd, 1) := by decide +kernel
theorem d_X_restore_78 : decode m_X_restore.2.1 78 = .ok (.iload_n 3, 1) := by decide +kernel
theorem d_X_restore_79 : decode m_X_restore.2.1 79 = .ok (.iadd, 1) := by decide +kernel
theorem d_X_restore_80 : decode m_X_restore.2.1 80 = .ok (.iaload, 1) := by decide +kernel
theorem d_X_restore_81 : decode m_X_restore.2.1 81 = .ok (.iastore, 1) := by decide +kernel
theorem d_X_restore_82 : decode m_X_restore.2.1 82 = .ok (.iinc 3 1, 3) := by decide +kernel
theorem d_X_restore_85 : decode m_X_restore.2.1 85 = .ok (.goto (-26), 3) := by decide +kernel
theorem d_X_restore_88 : decode m_X_restore.2.1 88 = .ok (.iconst 0, 1) := by decide +kernel
theorem d_X_restore_89 : decode m_X_restore.2.1 89 = .ok (.istore_n 3, 1) := by decide +kernel
theorem d_X_restore_90 : decode m_X_restore.2.1 90 = .ok (.iload_n 3, 1) := by decide +kernel
theorem d_X_restore_91 : decode m_X_restore.2.1 91 = .ok (.bipush 12, 2) := by decide +kernel
theorem d_X_restore_93 : decode m_X_restore.2.1 93 = .ok (.if_icmp .ge 26, 3) := by decide +kernel
theorem d_X_restore_96 : decode m_X_restore.2.1 96 = .ok (.aload_n 0, 1) := by decide +kernel
theorem d_X_restore_97 : decode m_X_restore.2.1 97 = .ok (.getfield 29, 3) := by decide +kernel
theorem d_X_restore_100 : decode m_X_restore.2.1 100 = .ok (.iload_n 3, 1) := by decide +kernel
theorem d_X_restore_101 : decode m_X_restore.2.1 101 = .ok (.aload_n 0, 1) := by decide +kernel
theorem d_X_restore_102 : decode m_X_restore.2.1 102 = .ok (.getfield 59, 3) := by decide +kernel
theorem d_X_restore_105 : decode m_X_restore.2.1 105 = .ok (.iload_n 2, 1) := by decide +kernel
theorem d_X_restore_106 : decode m_X_restore.2.1 106 = .ok (.bipush 60, 2) := by decide +kernel
theorem d_X_restore_108 : decode m_X_restore.2.1 108 = .ok (.iadd, 1) := by decide +kernel
theorem d_X_restore_109 : decode m_X_restore.2.1 109 = .ok (.iload_n 3, 1) := by decide +kernel
theorem d_X_restore_110 : decode m_X_restore.2.1 110 = .ok (.iadd, 1) := by decide +kernel
theorem d_X_restore_111 : decode m_X_restore.2.1 111 = .ok (.iaload, 1) := by decide +kernel
theorem d_X_restore_112 : decode m_X_restore.2.1 112 = .ok (.iastore, 1) := by decide +kernel
theorem d_X_restore_113 : decode m_X_restore.2.1 113 = .ok (.iinc 3 1, 3) := by decide +kernel
theorem d_X_restore_116 : decode m_X_restore.2.1 116 = .ok (.goto (-26), 3) := by decide +kernel
theorem d_X_restore_119 : decode m_X_restore.2.1 119 = .ok (.iconst 0, 1) := by decide +kernel
theorem d_X_restore_120 : decode m_X_restore.2.1 120 = .ok (.istore_n 3, 1) := by decide +kernel
theorem d_X_restore_121 : decode m_X_restore.2.1 121 = .ok (.iload_n 3, 1) := by decide +kernel
theorem d_X_restore_122 : decode m_X_restore.2.1 122 = .ok (.bipush 6, 2) := by decide +kernel
theorem d_X_restore_124 : decode m_X_restore.2.1 124 = .ok (.if_icmp .ge 26, 3) := by decide +kernel
theorem d_X_restore_127 : decode m_X_restore.2.1 127 = .ok (.aload_n 0, 1) := by decide +kernel
theorem d_X_restore_128 : decode m_X_restore.2.1 128 = .ok (.getfield 16, 3) := by decide +kernel
theorem d_X_restore_131 : decode m_X_restore.2.1 131 = .ok (.iload_n 3, 1) := by decide +kernel
theorem d_X_restore_132 : decode m_X_restore.2.1 132 = .ok (.aload_n 0, 1) := by decide +kernel
theorem d_X_restore_133 : decode m_X_restore.2.1 133 = .ok (.getfield 59, 3) := by decide +kernel
theorem d_X_restore_136 : decode m_X_restore.2.1 136 = .ok (.iload_n 2, 1) := by decide +kernel
theorem d_X_restore_137 : decode m_X_restore.2.1 137 = .ok (.bipush 72, 2) := by decide +kernel
theorem d_X_restore_139 : decode m_X_restore.2.1 139 = .ok (.iadd, 1) := by decide +kernel
theorem d_X_restore_140 : decode m_X_restore.2.1 140 = .ok (.iload_n 3, 1) := by decide +kernel
theorem d_X_restore_141 : decode m_X_restore.2.1 141 = .ok (.iadd, 1) := by decide +kernel
theorem d_X_restore_142 : decode m_X_restore.2.1 142 = .ok (.iaload, 1) := by decide +kernel
theorem d_X_restore_143 : decode m_X_restore.2.1 143 = .ok (.iastore, 1) := by decide +kernel
theorem d_X_restore_144 : decode m_X_restore.2.1 144 = .ok (.iinc 3 1, 3) := by decide +kernel
theorem d_X_restore_147 : decode m_X_restore.2.1 147 = .ok (.goto (-26), 3) := by decide +kernel
theorem d_X_restore_150 : decode m_X_restore.2.1 150 = .ok (.aload_n 0, 1) := by decide +kernel
theorem d_X_restore_151 : decode m_X_restore.2.1 151 = .ok (.aload_n 0, 1) := by decide +kernel
theorem d_X_restore_152 : decode m_X_restore.2.1 152 = .ok (.getfield 59, 3) := by decide +kernel
theorem d_X_restore_155 : decode m_X_restore.2.1 155 = .ok (.iload_n 2, 1) := by decide +kernel
theorem d_X_restore_156 : decode m_X_restore.2.1 156 = .ok (.bipush 78, 2) := by decide +kernel
theorem d_X_restore_158 : decode m_X_restore.2.1 158 = .ok (.iadd, 1) := by decide +kernel
theorem d_X_restore_159 : decode m_X_restore.2.1 159 = .ok (.iaload, 1) := by decide +kernel
theorem d_X_restore_160 : decode m_X_restore.2.1 160 = .ok (.putfield 70, 3) := by decide +kernel
theorem d_X_restore_163 : decode m_X_restore.2.1 163 = .ok (.aload_n 0, 1) := by decide +kernel
theorem d_X_restore_164 : decode m_X_restore.2.1 164 = .ok (.aload_n 0, 1) := by decide +kernel
theorem d_X_restore_165 : decode m_X_restore.2.1 165 = .ok (.getfield 59, 3) := by decide +kernel
theorem d_X_restore_168 : decode m_X_restore.2.1 168 = .ok (.iload_n 2, 1) := by decide +kernel
theorem d_X_restore_169 : decode m_X_restore.2.1 169 = .ok (.bipush 79, 2) := by decide +kernel
theorem d_X_restore_171 : decode m_X_restore.2.1 171 = .ok (.iadd, 1) := by decide +kernel
theorem d_X_restore_172 : decode m_X_restore.2.1 172 = .ok (.iaload, 1) := by decide +kernel
theorem d_X_restore_173 : decode m_X_restore.2.1 173 = .ok (.putfield 80, 3) := by decide +kernel
theorem d_X_restore_176 : decode m_X_restore.2.1 176 = .ok (.aload_n 0, 1) := by decide +kernel
theorem d_X_restore_177 : decode m_X_restore.2.1 177 = .ok (.aload_n 0, 1) := by decide +kernel
theorem d_X_restore_178 : decode m_X_restore.2.1 178 = .ok (.getfield 59, 3) := by decide +kernel
theorem d_X_restore_181 : decode m_X_restore.2.1 181 = .ok (.iload_n 2, 1) := by decide +kernel
theorem d_X_restore_182 : decode m_X_restore.2.1 182 = .ok (.bipush 80, 2) := by decide +kernel
theorem d_X_restore_184 : decode m_X_restore.2.1 184 = .ok (.iadd, 1) := by decide +kernel
theorem d_X_restore_185 : decode m_X_restore.2.1 185 = .ok (.iaload, 1) := by decide +kernel
theorem d_X_restore_186 : decode m_X_restore.2.1 186 = .ok (.putfield 7, 3) := by decide +kernel
theorem d_X_restore_189 : decode m_X_restore.2.1 189 = .ok (.aload_n 0, 1) := by decide +kernel
theorem d_X_restore_190 : decode m_X_restore.2.1 190 = .ok (.aload_n 0, 1) := by decide +kernel
theorem d_X_restore_191 : decode m_X_restore.2.1 191 = .ok (.getfield 59, 3) := by decide +kernel
theorem d_X_restore_194 : decode m_X_restore.2.1 194 = .ok (.iload_n 2, 1) := by decide +kernel
theorem d_X_restore_195 : decode m_X_restore.2.1 195 = .ok (.bipush 81, 2) := by decide +kernel
theorem d_X_restore_197 : decode m_X_restore.2.1 197 = .ok (.iadd, 1) := by decide +kernel
theorem d_X_restore_198 : decode m_X_restore.2.1 198 = .ok (.iaload, 1) := by decide +kernel
theorem d_X_restore_199 : decode m_X_restore.2.1 199 = .ok (.putfield 90, 3) := by decide +kernel
theorem d_X_restore_202 : decode m_X_restore.2.1 202 = .ok (.aload_n 0, 1) := by decide +kernel
theorem d_X_restore_203 : decode m_X_restore.2.1 203 = .ok (.aload_n 0, 1) := by decide +kernel
theorem d_X_restore_204 : decode m_X_restore.2.1 204 = .ok (.getfield 59, 3) := by decide +kernel
theorem d_X_restore_207 : decode m_X_restore.2.1 207 = .ok (.iload_n 2, 1) := by decide +kernel
theorem d_X_restore_208 : decode m_X_restore.2.1 208 = .ok (.bipush 82, 2) := by decide +kernel
theorem d_X_restore_210 : decode m_X_restore.2.1 210 = .ok (.iadd, 1) := by decide +kernel
theorem d_X_restore_211 : decode m_X_restore.2.1 211 = .ok (.iaload, 1) := by decide +kernel
theorem d_X_restore_212 : decode m_X_restore.2.1 212 = .ok (.putfield 13, 3) := by decide +kernel
theorem d_X_restore_215 : decode m_X_restore.2.1 215 = .ok (.iconst 1, 1) := by decide +kernel
theorem d_X_restore_216 : decode m_X_restore.2.1 216 = .ok (.ireturn, 1) := by decide +kernel
theorem d_X_say_0 : decode m_X_say.2.1 0 = .ok (.iload_n 1, 1) := by decide +kernel
theorem d_X_say_1 : decode m_X_say.2.1 1 = .ok (.bipush 33, 2) := by decide +kernel
theorem d_X_say_3 : decode m_X_say.2.1 3 = .ok (.bipush 126, 2) := by decide +kernel
theorem d_X_say_5 : decode m_X_say.2.1 5 = .ok (.invokestatic 66, 3) := by decide +kernel
theorem d_X_say_8 : decode m_X_say.2.1 8 = .ok (.ifCond .ne 6, 3) := by decide +kernel
theorem d_X_say_11 : decode m_X_say.2.1 11 = .ok (.bipush (-2), 2) := by decide +kernel
theorem d_X_say_13 : decode m_X_say.2.1 13 = .ok (.ireturn, 1) := by decide +kernel
theorem d_X_say_14 : decode m_X_say.2.1 14 = .ok (.aload_n 0, 1) := by decide +kernel
theorem d_X_say_15 : decode m_X_say.2.1 15 = .ok (.getfield 73, 3) := by decide +kernel
theorem d_X_say_18 : decode m_X_say.2.1 18 = .ok (.bipush 60, 2) := by decide +kernel
theorem d_X_say_20 : decode m_X_say.2.1 20 = .ok (.if_icmp .ne 6, 3) := by decide +kernel
theorem d_X_say_23 : decode m_X_say.2.1 23 = .ok (.bipush (-4), 2) := by decide +kernel
theorem d_X_say_25 : decode m_X_say.2.1 25 = .ok (.ireturn, 1) := by decide +kernel
theorem d_X_say_26 : decode m_X_say.2.1 26 = .ok (.aload_n 0, 1) := by decide +kernel
theorem d_X_say_27 : decode m_X_say.2.1 27 = .ok (.getfield 20, 3) := by decide +kernel
theorem d_X_say_30 : decode m_X_say.2.1 30 = .ok (.aload_n 0, 1) := by decide +kernel
theorem d_X_say_31 : decode m_X_say.2.1 31 = .ok (.getfield 73, 3) := by decide +kernel
theorem d_X_say_34 : decode m_X_say.2.1 34 = .ok (.iload_n 1, 1) := by decide +kernel
theorem d_X_say_35 : decode m_X_say.2.1 35 = .ok (.iastore, 1) := by decide +kernel
theorem d_X_say_36 : decode m_X_say.2.1 36 = .ok (.aload_n 0, 1) := by decide +kernel
theorem d_X_say_37 : decode m_X_say.2.1 37 = .ok (.dup, 1) := by decide +kernel
theorem d_X_say_38 : decode m_X_say.2.1 38 = .ok (.getfield 73, 3) := by decide +kernel
theorem d_X_say_41 : decode m_X_say.2.1 41 = .ok (.iconst 1, 1) := by decide +kernel
theorem d_X_say_42 : decode m_X_say.2.1 42 = .ok (.iadd, 1) := by decide +kernel
theorem d_X_say_43 : decode m_X_say.2.1 43 = .ok (.putfield 73, 3) := by decide +kernel
theorem d_X_say_46 : decode m_X_say.2.1 46 = .ok (.aload_n 0, 1) := by decide +kernel
theorem d_X_say_47 : decode m_X_say.2.1 47 = .ok (.getfield 73, 3) := by decide +kernel
theorem d_X_say_50 : decode m_X_say.2.1 50 = .ok (.ireturn, 1) := by decide +kernel
theorem d_X_seen_0 : decode m_X_seen.2.1 0 = .ok (.iload_n 1, 1) := by decide +kernel
theorem d_X_seen_1 : decode m_X_seen.2.1 1 = .ok (.invokestatic 87, 3) := by decide +kernel
theorem d_X_seen_4 : decode m_X_seen.2.1 4 = .ok (.ifCond .eq 11, 3) := by decide +kernel
theorem d_X_seen_7 : decode m_X_seen.2.1 7 = .ok (.aload_n 0, 1) := by decide +kernel
theorem d_X_seen_8 : decode m_X_seen.2.1 8 = .ok (.iload_n 2, 1) := by decide +kernel
theorem d_X_seen_9 : decode m_X_seen.2.1 9 = .ok (.invokevirtual 83, 3) := by decide +kernel
theorem d_X_seen_12 : decode m_X_seen.2.1 12 = .ok (.ifCond .ne 5, 3) := by decide +kernel
theorem d_X_seen_15 : decode m_X_seen.2.1 15 = .ok (.iconst (-1), 1) := by decide +kernel
theorem d_X_seen_16 : decode m_X_seen.2.1 16 = .ok (.ireturn, 1) := by decide +kernel
theorem d_X_seen_17 : decode m_X_seen.2.1 17 = .ok (.aload_n 0, 1) := by decide +kernel
theorem d_X_seen_18 : decode m_X_seen.2.1 18 = .ok (.getfield 80, 3) := by decide +kernel
theorem d_X_seen_21 : decode m_X_seen.2.1 21 = .ok (.bipush 6, 2) := by decide +kernel
theorem d_X_seen_23 : decode m_X_seen.2.1 23 = .ok (.if_icmp .ne 6, 3) := by decide +kernel
theorem d_X_seen_26 : decode m_X_seen.2.1 26 = .ok (.bipush (-4), 2) := by decide +kernel
theorem d_X_seen_28 : decode m_X_seen.2.1 28 = .ok (.ireturn, 1) := by decide +kernel
theorem d_X_seen_29 : decode m_X_seen.2.1 29 = .ok (.aload_n 0, 1) := by decide +kernel
theorem d_X_seen_30 : decode m_X_seen.2.1 30 = .ok (.getfield 29, 3) := by decide +kernel
theorem d_X_seen_33 : decode m_X_seen.2.1 33 = .ok (.iconst 2, 1) := by decide +kernel
theorem d_X_seen_34 : decode m_X_seen.2.1 34 = .ok (.aload_n 0, 1) := by decide +kernel
theorem d_X_seen_35 : decode m_X_seen.2.1 35 = .ok (.getfield 80, 3) := by decide +kernel
theorem d_X_seen_38 : decode m_X_seen.2.1 38 = .ok (.imul, 1) := by decide +kernel
theorem d_X_seen_39 : decode m_X_seen.2.1 39 = .ok (.iload_n 1, 1) := by decide +kernel
theorem d_X_seen_40 : decode m_X_seen.2.1 40 = .ok (.iastore, 1) := by decide +kernel
theorem d_X_seen_41 : decode m_X_seen.2.1 41 = .ok (.aload_n 0, 1) := by decide +kernel
theorem d_X_seen_42 : decode m_X_seen.2.1 42 = .ok (.getfield 29, 3) := by decide +kernel
theorem d_X_seen_45 : decode m_X_seen.2.1 45 = .ok (.iconst 2, 1) := by decide +kernel
theorem d_X_seen_46 : decode m_X_seen.2.1 46 = .ok (.aload_n 0, 1) := by decide +kernel
theorem d_X_seen_47 : decode m_X_seen.2.1 47 = .ok (.getfield 80, 3) := by decide +kernel
theorem d_X_seen_50 : decode m_X_seen.2.1 50 = .ok (.imul, 1) := by decide +kernel
theorem d_X_seen_51 : decode m_X_seen.2.1 51 = .ok (.iconst 1, 1) := by decide +kernel
theorem d_X_seen_52 : decode m_X_seen.2.1 52 = .ok (.iadd, 1) := by decide +kernel
theorem d_X_seen_53 : decode m_X_seen.2.1 53 = .ok (.iload_n 2, 1) := by decide +kernel
theorem d_X_seen_54 : decode m_X_seen.2.1 54 = .ok (.iastore, 1) := by decide +kernel
theorem d_X_seen_55 : decode m_X_seen.2.1 55 = .ok (.aload_n 0, 1) := by decide +kernel
theorem d_X_seen_56 : decode m_X_seen.2.1 56 = .ok (.dup, 1) := by decide +kernel
theorem d_X_seen_57 : decode m_X_seen.2.1 57 = .ok (.getfield 80, 3) := by decide +kernel
theorem d_X_seen_60 : decode m_X_seen.2.1 60 = .ok (.iconst 1, 1) := by decide +kernel
theorem d_X_seen_61 : decode m_X_seen.2.1 61 = .ok (.iadd, 1) := by decide +kernel
theorem d_X_seen_62 : decode m_X_seen.2.1 62 = .ok (.putfield 80, 3) := by decide +kernel
theorem d_X_seen_65 : decode m_X_seen.2.1 65 = .ok (.aload_n 0, 1) := by decide +kernel
theorem d_X_seen_66 : decode m_X_seen.2.1 66 = .ok (.getfield 80, 3) := by decide +kernel
theorem d_X_seen_69 : decode m_X_seen.2.1 69 = .ok (.ireturn, 1) := by decide +kernel
theorem d_X_set_0 : decode m_X_set.2.1 0 = .ok (.iload_n 1, 1) := by decide +kernel
theorem d_X_set_1 : decode m_X_set.2.1 1 = .ok (.iconst 0, 1) := by decide +kernel
theorem d_X_set_2 : decode m_X_set.2.1 2 = .ok (.iconst 2, 1) := by decide +kernel
theorem d_X_set_3 : decode m_X_set.2.1 3 = .ok (.invokestatic 66, 3) := by decide +kernel
theorem d_X_set_6 : decode m_X_set.2.1 6 = .ok (.ifCond .eq 31, 3) := by decide +kernel
theorem d_X_set_9 : decode m_X_set.2.1 9 = .ok (.iload_n 2, 1) := by decide +kernel
theorem d_X_set_10 : decode m_X_set.2.1 10 = .ok (.iconst 0, 1) := by decide +kernel
theorem d_X_set_11 : decode m_X_set.2.1 11 = .ok (.iload_n 1, 1) := by decide +kernel
theorem d_X_set_12 : decode m_X_set.2.1 12 = .ok (.ifCond .ne 8, 3) := by decide +kernel
theorem d_X_set_15 : decode m_X_set.2.1 15 = .ok (.bipush 9, 2) := by decide +kernel
theorem d_X_set_17 : decode m_X_set.2.1 17 = .ok (.goto 14, 3) := by decide +kernel
theorem d_X_set_20 : decode m_X_set.2.1 20 = .ok (.iload_n 1, 1) := by decide +kernel
theorem d_X_set_21 : decode m_X_set.2.1 21 = .ok (.iconst 1, 1) := by decide +kernel
theorem d_X_set_22 : decode m_X_set.2.1 22 = .ok (.if_icmp .ne 7, 3) := by decide +kernel
theorem d_X_set_25 : decode m_X_set.2.1 25 = .ok (.iconst 1, 1) := by decide +kernel
theorem d_X_set_26 : decode m_X_set.2.1 26 = .ok (.goto 5, 3) := by decide +kernel
theorem d_X_set_29 : decode m_X_set.2.1 29 = .ok (.bipush 10, 2) := by decide +kernel
theorem d_X_set_31 : decode m_X_set.2.1 31 = .ok (.invokestatic 66, 3) := by decide +kernel
theorem d_X_set_34 : decode m_X_set.2.1 34 = .ok (.ifCond .ne 6, 3) := by decide +kernel
theorem d_X_set_37 : decode m_X_set.2.1 37 = .ok (.bipush (-2), 2) := by decide +kernel
theorem d_X_set_39 : decode m_X_set.2.1 39 = .ok (.ireturn, 1) := by decide +kernel
theorem d_X_set_40 : decode m_X_set.2.1 40 = .ok (.iload_n 1, 1) := by decide +kernel
theorem d_X_set_41 : decode m_X_set.2.1 41 = .ok (.ifCond .ne 10, 3) := by decide +kernel
theorem d_X_set_44 : decode m_X_set.2.1 44 = .ok (.aload_n 0, 1) := by decide +kernel
theorem d_X_set_45 : decode m_X_set.2.1 45 = .ok (.getfield 7, 3) := by decide +kernel
theorem d_X_set_48 : decode m_X_set.2.1 48 = .ok (.goto 19, 3) := by decide +kernel
theorem d_X_set_51 : decode m_X_set.2.1 51 = .ok (.iload_n 1, 1) := by decide +kernel
theorem d_X_set_52 : decode m_X_set.2.1 52 = .ok (.iconst 1, 1) := by decide +kernel
theorem d_X_set_53 : decode m_X_set.2.1 53 = .ok (.if_icmp .ne 10, 3) := by decide +kernel
theorem d_X_set_56 : decode m_X_set.2.1 56 = .ok (.aload_n 0, 1) := by decide +kernel
theorem d_X_set_57 : decode m_X_set.2.1 57 = .ok (.getfield 90, 3) := by decide +kernel
theorem d_X_set_60 : decode m_X_set.2.1 60 = .ok (.goto 7, 3) := by decide +kernel
theorem d_X_set_63 : decode m_X_set.2.1 63 = .ok (.aload_n 0, 1) := by decide +kernel
theorem d_X_set_64 : decode m_X_set.2.1 64 = .ok (.getfield 13, 3) := by decide +kernel
theorem d_X_set_67 : decode m_X_set.2.1 67 = .ok (.istore_n 3, 1) := by decide +kernel
theorem d_X_set_68 : decode m_X_set.2.1 68 = .ok (.aload_n 0, 1) := by decide +kernel
theorem d_X_set_69 : decode m_X_set.2.1 69 = .ok (.iload_n 1, 1) := by decide +kernel
theorem d_X_set_70 : decode m_X_set.2.1 70 = .ok (.ifCond .ne 7, 3) := by decide +kernel
theorem d_X_set_73 : decode m_X_set.2.1 73 = .ok (.iload_n 2, 1) := by decide +kernel
theorem d_X_set_74 : decode m_X_set.2.1 74 = .ok (.goto 7, 3) := by decide +kernel
theorem d_X_set_77 : decode m_X_set.2.1 77 = .ok (.aload_n 0, 1) := by decide +kernel
theorem d_X_set_78 : decode m_X_set.2.1 78 = .ok (.getfield 7, 3) := by decide +kernel
theorem d_X_set_81 : decode m_X_set.2.1 81 = .ok (.putfield 7, 3) := by decide +kernel
theorem d_X_set_84 : decode m_X_set.2.1 84 = .ok (.aload_n 0, 1) := by decide +kernel
theorem d_X_set_85 : decode m_X_set.2.1 85 = .ok (.iload_n 1, 1) := by decide +kernel
theorem d_X_set_86 : decode m_X_set.2.1 86 = .ok (.iconst 1, 1) := by decide +kernel
theorem d_X_set_87 : decode m_X_set.2.1 87 = .ok (.if_icmp .ne 7, 3) := by decide +kernel
theorem d_X_set_90 : decode m_X_set.2.1 90 = .ok (.iload_n 2, 1) := by decide +kernel
theorem d_X_set_91 : decode m_X_set.2.1 91 = .ok (.goto 7, 3) := by decide +kernel
theorem d_X_set_94 : decode m_X_set.2.1 94 = .ok (.aload_n 0, 1) := by decide +kernel
theorem d_X_set_95 : decode m_X_set.2.1 95 = .ok (.getfield 90, 3) := by decide +kernel
theorem d_X_set_98 : decode m_X_set.2.1 98 = .ok (.putfield 90, 3) := by decide +kernel
theorem d_X_set_101 : decode m_X_set.2.1 101 = .ok (.aload_n 0, 1) := by decide +kernel
theorem d_X_set_102 : decode m_X_set.2.1 102 = .ok (.iload_n 1, 1) := by decide +kernel
theorem d_X_set_103 : decode m_X_set.2.1 103 = .ok (.iconst 2, 1) := by decide +kernel
theorem d_X_set_104 : decode m_X_set.2.1 104 = .ok (.if_icmp .ne 7, 3) := by decide +kernel
theorem d_X_set_107 : decode m_X_set.2.1 107 = .ok (.iload_n 2, 1) := by decide +kernel
theorem d_X_set_108 : decode m_X_set.2.1 108 = .ok (.goto 7, 3) := by decide +kernel
theorem d_X_set_111 : decode m_X_set.2.1 111 = .ok (.aload_n 0, 1) := by decide +kernel
theorem d_X_set_112 : decode m_X_set.2.1 112 = .ok (.getfield 13, 3) := by decide +kernel
theorem d_X_set_115 : decode m_X_set.2.1 115 = .ok (.putfield 13, 3) := by decide +kernel
theorem d_X_set_118 : decode m_X_set.2.1 118 = .ok (.iload_n 3, 1) := by decide +kernel
theorem d_X_set_119 : decode m_X_set.2.1 119 = .ok (.ireturn, 1) := by decide +kernel
theorem d_X_share_0 : decode m_X_share.2.1 0 = .ok (.aload_n 0, 1) := by decide +kernel
theorem d_X_share_1 : decode m_X_share.2.1 1 = .ok (.iload_n 1, 1) := by decide +kernel
theorem d_X_share_2 : decode m_X_share.2.1 2 = .ok (.invokevirtual 83, 3) := by decide +kernel
theorem d_X_share_5 : decode m_X_share.2.1 5 = .ok (.ifCond .eq 10, 3) := by decide +kernel
theorem d_X_share_8 : decode m_X_share.2.1 8 = .ok (.iload_n 2, 1) := by decide +kernel
theorem d_X_share_9 : decode m_X_share.2.1 9 = .ok (.invokestatic 87, 3) := by decide +kernel
theorem d_X_share_12 : decode m_X_share.2.1 12 = .ok (.ifCond .ne 7, 3) := by decide +kernel
theorem d_X_share_15 : decode m_X_share.2.1 15 = .ok (.ldc2_w 131, 3) := by decide +kernel
theorem d_X_share_18 : decode m_X_share.2.1 18 = .ok (.lreturn, 1) := by decide +kernel
theorem d_X_share_19 : decode m_X_share.2.1 19 = .ok (.iload_n 3, 1) := by decide +kernel
theorem d_X_share_20 : decode m_X_share.2.1 20 = .ok (.iconst 0, 1) := by decide +kernel
theorem d_X_share_21 : decode m_X_share.2.1 21 = .ok (.iconst 1, 1) := by decide +kernel
theorem d_X_share_22 : decode m_X_share.2.1 22 = .ok (.invokestatic 66, 3) := by decide +kernel
theorem d_X_share_25 : decode m_X_share.2.1 25 = .ok (.ifCond .ne 7, 3) := by decide +kernel
theorem d_X_share_28 : decode m_X_share.2.1 28 = .ok (.ldc2_w 133, 3) := by decide +kernel
theorem d_X_share_31 : decode m_X_share.2.1 31 = .ok (.lreturn, 1) := by decide +kernel
theorem d_X_share_32 : decode m_X_share.2.1 32 = .ok (.aload_n 0, 1) := by decide +kernel
theorem d_X_share_33 : decode m_X_share.2.1 33 = .ok (.iload_n 1, 1) := by decide +kernel
theorem d_X_share_34 : decode m_X_share.2.1 34 = .ok (.iload_n 2, 1) := by decide +kernel
theorem d_X_share_35 : decode m_X_share.2.1 35 = .ok (.invokevirtual 112, 3) := by decide +kernel
theorem d_X_share_38 : decode m_X_share.2.1 38 = .ok (.istore 4, 2) := by decide +kernel
theorem d_X_share_40 : decode m_X_share.2.1 40 = .ok (.iload 4, 2) := by decide +kernel
theorem d_X_share_42 : decode m_X_share.2.1 42 = .ok (.istore 5, 2) := by decide +kernel
theorem d_X_share_44 : decode m_X_share.2.1 44 = .ok (.sipush 3072, 3) := by decide +kernel
theorem d_X_share_47 : decode m_X_share.2.1 47 = .ok (.istore 6, 2) := by decide +kernel
theorem d_X_share_49 : decode m_X_share.2.1 49 = .ok (.iload 6, 2) := by decide +kernel
theorem d_X_share_51 : decode m_X_share.2.1 51 = .ok (.ifCond .eq 21, 3) := by decide +kernel
theorem d_X_share_54 : decode m_X_share.2.1 54 = .ok (.iload 5, 2) := by decide +kernel
theorem d_X_share_56 : decode m_X_share.2.1 56 = .ok (.iload 6, 2) := by decide +kernel
theorem d_X_share_58 : decode m_X_share.2.1 58 = .ok (.irem, 1) := by decide +kernel
theorem d_X_share_59 : decode m_X_share.2.1 59 = .ok (.istore 7, 2) := by decide +kernel
theorem d_X_share_61 : decode m_X_share.2.1 61 = .ok (.iload 6, 2) := by decide +kernel
theorem d_X_share_63 : decode m_X_share.2.1 63 = .ok (.istore 5, 2) := by decide +kernel
theorem d_X_share_65 : decode m_X_share.2.1 65 = .ok (.iload 7, 2) := by decide +kernel
theorem d_X_share_67 : decode m_X_share.2.1 67 = .ok (.istore 6, 2) := by decide +kernel
theorem d_X_share_69 : decode m_X_share.2.1 69 = .ok (.goto (-20), 3) := by decide +kernel
theorem d_X_share_72 : decode m_X_share.2.1 72 = .ok (.iload_n 3, 1) := by decide +kernel
theorem d_X_share_73 : decode m_X_share.2.1 73 = .ok (.ifCond .ne 12, 3) := by decide +kernel
theorem d_X_share_76 : decode m_X_share.2.1 76 = .ok (.iload 4, 2) := by decide +kernel
theorem d_X_share_78 : decode m_X_share.2.1 78 = .ok (.iload 5, 2) := by decide +kernel
theorem d_X_share_80 : decode m_X_share.2.1 80 = .ok (.idiv, 1) := by decide +kernel
theorem d_X_share_81 : decode m_X_share.2.1 81 = .ok (.i2l, 1) := by decide +kernel
theorem d_X_share_82 : decode m_X_share.2.1 82 = .ok (.goto 10, 3) := by decide +kernel
theorem d_X_share_85 : decode m_X_share.2.1 85 = .ok (.sipush 3072, 3) := by decide +kernel
theorem d_X_share_88 : decode m_X_share.2.1 88 = .ok (.iload 5, 2) := by decide +kernel
theorem d_X_share_90 : decode m_X_share.2.1 90 = .ok (.idiv, 1) := by decide +kernel
theorem d_X_share_91 : decode m_X_share.2.1 91 = .ok (.i2l, 1) := by decide +kernel
theorem d_X_share_92 : decode m_X_share.2.1 92 = .ok (.lreturn, 1) := by decide +kernel
theorem d_X_shareOf_0 : decode m_X_shareOf.2.1 0 = .ok (.iconst 0, 1) := by decide +kernel
theorem d_X_shareOf_1 : decode m_X_shareOf.2.1 1 = .ok (.istore_n 3, 1) := by decide +kernel
theorem d_X_shareOf_2 : decode m_X_shareOf.2.1 2 = .ok (.iload_n 3, 1) := by decide +kernel
theorem d_X_shareOf_3 : decode m_X_shareOf.2.1 3 = .ok (.iload_n 1, 1) := by decide +kernel
theorem d_X_shareOf_4 : decode m_X_shareOf.2.1 4 = .ok (.if_icmp .gt 117, 3) := by decide +kernel
theorem d_X_shareOf_7 : decode m_X_shareOf.2.1 7 = .ok (.aload_n 0, 1) := by decide +kernel
theorem d_X_shareOf_8 : decode m_X_shareOf.2.1 8 = .ok (.getfield 23, 3) := by decide +kernel
theorem d_X_shareOf_11 : decode m_X_shareOf.2.1 11 = .ok (.iconst 5, 1) := by decide +kernel
theorem d_X_shareOf_12 : decode m_X_shareOf.2.1 12 = .ok (.iload_n 3, 1) := by decide +kernel
theorem d_X_shareOf_13 : decode m_X_shareOf.2.1 13 = .ok (.imul, 1) := by decide +kernel
theorem d_X_shareOf_14 : decode m_X_shareOf.2.1 14 = .ok (.iconst 1, 1) := by decide +kernel
theorem d_X_shareOf_15 : decode m_X_shareOf.2.1 15 = .ok (.iadd, 1) := by decide +kernel
theorem d_X_shareOf_16 : decode m_X_shareOf.2.1 16 = .ok (.iaload, 1) := by decide +kernel
theorem d_X_shareOf_17 : decode m_X_shareOf.2.1 17 = .ok (.istore 4, 2) := by decide +kernel
theorem d_X_shareOf_19 : decode m_X_shareOf.2.1 19 = .ok (.aload_n 0, 1) := by decide +kernel
theorem d_X_shareOf_20 : decode m_X_shareOf.2.1 20 = .ok (.getfield 23, 3) := by decide +kernel
theorem d_X_shareOf_23 : decode m_X_shareOf.2.1 23 = .ok (.iconst 5, 1) := by decide +kernel
theorem d_X_shareOf_24 : decode m_X_shareOf.2.1 24 = .ok (.iload_n 3, 1) := by decide +kernel
theorem d_X_shareOf_25 : decode m_X_shareOf.2.1 25 = .ok (.imul, 1) := by decide +kernel
theorem d_X_shareOf_26 : decode m_X_shareOf.2.1 26 = .ok (.iconst 2, 1) := by decide +kernel
theorem d_X_shareOf_27 : decode m_X_shareOf.2.1 27 = .ok (.iadd, 1) := by decide +kernel
theorem d_X_shareOf_28 : decode m_X_shareOf.2.1 28 = .ok (.iaload, 1) := by decide +kernel
theorem d_X_shareOf_29 : decode m_X_shareOf.2.1 29 = .ok (.istore 5, 2) := by decide +kernel
theorem d_X_shareOf_31 : decode m_X_shareOf.2.1 31 = .ok (.aload_n 0, 1) := by decide +kernel
theorem d_X_shareOf_32 : decode m_X_shareOf.2.1 32 = .ok (.getfield 23, 3) := by decide +kernel
theorem d_X_shareOf_35 : decode m_X_shareOf.2.1 35 = .ok (.iconst 5, 1) := by decide +kernel
theorem d_X_shareOf_36 : decode m_X_shareOf.2.1 36 = .ok (.iload_n 3, 1) := by decide +kernel
theorem d_X_shareOf_37 : decode m_X_shareOf.2.1 37 = .ok (.imul, 1) := by decide +kernel
theorem d_X_shareOf_38 : decode m_X_shareOf.2.1 38 = .ok (.iaload, 1) := by decide +kernel
theorem d_X_shareOf_39 : decode m_X_shareOf.2.1 39 = .ok (.iload_n 2, 1) := by decide +kernel
theorem d_X_shareOf_40 : decode m_X_shareOf.2.1 40 = .ok (.invokestatic 98, 3) := by decide +kernel
theorem d_X_shareOf_43 : decode m_X_shareOf.2.1 43 = .ok (.ifCond .eq 21, 3) := by decide +kernel
theorem d_X_shareOf_46 : decode m_X_shareOf.2.1 46 = .ok (.sipush 3072, 3) := by decide +kernel
theorem d_X_shareOf_49 : decode m_X_shareOf.2.1 49 = .ok (.aload_n 0, 1) := by decide +kernel
theorem d_X_shareOf_50 : decode m_X_shareOf.2.1 50 = .ok (.getfield 23, 3) := by decide +kernel
theorem d_X_shareOf_53 : decode m_X_shareOf.2.1 53 = .ok (.iconst 5, 1) := by decide +kernel
theorem d_X_shareOf_54 : decode m_X_shareOf.2.1 54 = .ok (.iload_n 3, 1) := by decide +kernel
theorem d_X_shareOf_55 : decode m_X_shareOf.2.1 55 = .ok (.imul, 1) := by decide +kernel
theorem d_X_shareOf_56 : decode m_X_shareOf.2.1 56 = .ok (.iaload, 1) := by decide +kernel
theorem d_X_shareOf_57 : decode m_X_shareOf.2.1 57 = .ok (.invokestatic 109, 3) := by decide +kernel
theorem d_X_shareOf_60 : decode m_X_shareOf.2.1 60 = .ok (.idiv, 1) := by decide +kernel
theorem d_X_shareOf_61 : decode m_X_shareOf.2.1 61 = .ok (.goto 4, 3) := by decide +kernel
theorem d_X_shareOf_64 : decode m_X_shareOf.2.1 64 = .ok (.iconst 0, 1) := by decide +kernel
theorem d_X_shareOf_65 : decode m_X_shareOf.2.1 65 = .ok (.istore 6, 2) := by decide +kernel
theorem d_X_shareOf_67 : decode m_X_shareOf.2.1 67 = .ok (.aload_n 0, 1) := by decide +kernel
theorem d_X_shareOf_68 : decode m_X_shareOf.2.1 68 = .ok (.getfield 38, 3) := by decide +kernel
theorem d_X_shareOf_71 : decode m_X_shareOf.2.1 71 = .ok (.iload_n 3, 1) := by decide +kernel
theorem d_X_shareOf_72 : decode m_X_shareOf.2.1 72 = .ok (.iload 4, 2) := by decide +kernel
theorem d_X_shareOf_74 : decode m_X_shareOf.2.1 74 = .ok (.ifCond .ge 8, 3) := by decide +kernel
theorem d_X_shareOf_77 : decode m_X_shareOf.2.1 77 = .ok (.iload 6, 2) := by decide +kernel
theorem d_X_shareOf_79 : decode m_X_shareOf.2.1 79 = .ok (.goto 35, 3) := by decide +kernel
theorem d_X_shareOf_82 : decode m_X_shareOf.2.1 82 = .ok (.iload 5, 2) := by decide +kernel
theorem d_X_shareOf_84 : decode m_X_shareOf.2.1 84 = .ok (.ifCond .ge 13, 3) := by decide +kernel
theorem d_X_shareOf_87 : decode m_X_shareOf.2.1 87 = .ok (.aload_n 0, 1) := by decide +kernel
theorem d_X_shareOf_88 : decode m_X_shareOf.2.1 88 = .ok (.getfield 38, 3) := by decide +kernel
theorem d_X_shareOf_91 : decode m_X_shareOf.2.1 91 = .ok (.iload 4, 2) := by decide +kernel
theorem d_X_shareOf_93 : decode m_X_shareOf.2.1 93 = .ok (.iaload, 1) := by decide +kernel
theorem d_X_shareOf_94 : decode m_X_shareOf.2.1 94 = .ok (.goto 20, 3) := by decide +kernel
theorem d_X_shareOf_97 : decode m_X_shareOf.2.1 97 = .ok (.aload_n 0, 1) := by decide +kernel
theorem d_X_shareOf_98 : decode m_X_shareOf.2.1 98 = .ok (.getfield 38, 3) := by decide +kernel
theorem d_X_shareOf_101 : decode m_X_shareOf.2.1 101 = .ok (.iload 4, 2) := by decide +kernel
theorem d_X_shareOf_103 : decode m_X_shareOf.2.1 103 = .ok (.iaload, 1) := by decide +kernel
theorem d_X_shareOf_104 : decode m_X_shareOf.2.1 104 = .ok (.aload_n 0, 1) := by decide +kernel
theorem d_X_shareOf_105 : decode m_X_shareOf.2.1 105 = .ok (.getfield 38, 3) := by decide +kernel
theorem d_X_shareOf_108 : decode m_X_shareOf.2.1 108 = .ok (.iload 5, 2) := by decide +kernel
theorem d_X_shareOf_110 : decode m_X_shareOf.2.1 110 = .ok (.iaload, 1) := by decide +kernel
theorem d_X_shareOf_111 : decode m_X_shareOf.2.1 111 = .ok (.iadd, 1) := by decide +kernel
theorem d_X_shareOf_112 : decode m_X_shareOf.2.1 112 = .ok (.iconst 2, 1) := by decide +kernel
theorem d_X_shareOf_113 : decode m_X_shareOf.2.1 113 = .ok (.idiv, 1) := by decide +kernel
theorem d_X_shareOf_114 : decode m_X_shareOf.2.1 114 = .ok (.iastore, 1) := by decide +kernel
theorem d_X_shareOf_115 : decode m_X_shareOf.2.1 115 = .ok (.iinc 3 1, 3) := by decide +kernel
theorem d_X_shareOf_118 : decode m_X_shareOf.2.1 118 = .ok (.goto (-116), 3) := by decide +kernel
theorem d_X_shareOf_121 : decode m_X_shareOf.2.1 121 = .ok (.aload_n 0, 1) := by decide +kernel
theorem d_X_shareOf_122 : decode m_X_shareOf.2.1 122 = .ok (.getfield 38, 3) := by decide +kernel
theorem d_X_shareOf_125 : decode m_X_shareOf.2.1 125 = .ok (.iload_n 1, 1) := by decide +kernel
theorem d_X_shareOf_126 : decode m_X_shareOf.2.1 126 = .ok (.iaload, 1) := by decide +kernel
theorem d_X_shareOf_127 : decode m_X_shareOf.2.1 127 = .ok (.ireturn, 1) := by decide +kernel
theorem d_X_sure_0 : decode m_X_sure.2.1 0 = .ok (.aload_n 0, 1) := by decide +kernel
theorem d_X_sure_1 : decode m_X_sure.2.1 1 = .ok (.iload_n 1, 1) := by decide +kernel
theorem d_X_sure_2 : decode m_X_sure.2.1 2 = .ok (.invokevirtual 83, 3) := by decide +kernel
theorem d_X_sure_5 : decode m_X_sure.2.1 5 = .ok (.ifCond .ne 5, 3) := by decide +kernel
theorem d_X_sure_8 : decode m_X_sure.2.1 8 = .ok (.iconst (-1), 1) := by decide +kernel
theorem d_X_sure_9 : decode m_X_sure.2.1 9 = .ok (.ireturn, 1) := by decide +kernel
theorem d_X_sure_10 : decode m_X_sure.2.1 10 = .ok (.iload_n 2, 1) := by decide +kernel
theorem d_X_sure_11 : decode m_X_sure.2.1 11 = .ok (.iconst 0, 1) := by decide +kernel
theorem d_X_sure_12 : decode m_X_sure.2.1 12 = .ok (.iconst 1, 1) := by decide +kernel
theorem d_X_sure_13 : decode m_X_sure.2.1 13 = .ok (.invokestatic 66, 3) := by decide +kernel
theorem d_X_sure_16 : decode m_X_sure.2.1 16 = .ok (.ifCond .ne 6, 3) := by decide +kernel
theorem d_X_sure_19 : decode m_X_sure.2.1 19 = .ok (.bipush (-2), 2) := by decide +kernel
theorem d_X_sure_21 : decode m_X_sure.2.1 21 = .ok (.ireturn, 1) := by decide +kernel
theorem d_X_sure_22 : decode m_X_sure.2.1 22 = .ok (.bipush 63, 2) := by decide +kernel
theorem d_X_sure_24 : decode m_X_sure.2.1 24 = .ok (.istore_n 3, 1) := by decide +kernel
theorem d_X_sure_25 : decode m_X_sure.2.1 25 = .ok (.iconst 0, 1) := by decide +kernel
theorem d_X_sure_26 : decode m_X_sure.2.1 26 = .ok (.istore 4, 2) := by decide +kernel
theorem d_X_sure_28 : decode m_X_sure.2.1 28 = .ok (.iconst 0, 1) := by decide +kernel
theorem d_X_sure_29 : decode m_X_sure.2.1 29 = .ok (.istore 5, 2) := by decide +kernel
theorem d_X_sure_31 : decode m_X_sure.2.1 31 = .ok (.iconst 0, 1) := by decide +kernel
theorem d_X_sure_32 : decode m_X_sure.2.1 32 = .ok (.istore 6, 2) := by decide +kernel
theorem d_X_sure_34 : decode m_X_sure.2.1 34 = .ok (.iload 6, 2) := by decide +kernel
theorem d_X_sure_36 : decode m_X_sure.2.1 36 = .ok (.aload_n 0, 1) := by decide +kernel
theorem d_X_sure_37 : decode m_X_sure.2.1 37 = .ok (.invokevirtual 141, 3) := by decide +kernel
theorem d_X_sure_40 : decode m_X_sure.2.1 40 = .ok (.if_icmp .ge 40, 3) := by decide +kernel
theorem d_X_sure_43 : decode m_X_sure.2.1 43 = .ok (.aload_n 0, 1) := by decide +kernel
theorem d_X_sure_44 : decode m_X_sure.2.1 44 = .ok (.iload 6, 2) := by decide +kernel
theorem d_X_sure_46 : decode m_X_sure.2.1 46 = .ok (.invokevirtual 144, 3) := by decide +kernel
theorem d_X_sure_49 : decode m_X_sure.2.1 49 = .ok (.ifCond .eq 25, 3) := by decide +kernel
theorem d_X_sure_52 : decode m_X_sure.2.1 52 = .ok (.aload_n 0, 1) := by decide +kernel
theorem d_X_sure_53 : decode m_X_sure.2.1 53 = .ok (.iload_n 1, 1) := by decide +kernel
theorem d_X_sure_54 : decode m_X_sure.2.1 54 = .ok (.invokevirtual 119, 3) := by decide +kernel
theorem d_X_sure_57 : decode m_X_sure.2.1 57 = .ok (.istore 7, 2) := by decide +kernel
theorem d_X_sure_59 : decode m_X_sure.2.1 59 = .ok (.iload_n 3, 1) := by decide +kernel
theorem d_X_sure_60 : decode m_X_sure.2.1 60 = .ok (.iload 7, 2) := by decide +kernel
theorem d_X_sure_62 : decode m_X_sure.2.1 62 = .ok (.iand, 1) := by decide +kernel
theorem d_X_sure_63 : decode m_X_sure.2.1 63 = .ok (.istore_n 3, 1) := by decide +kernel
theorem d_X_sure_64 : decode m_X_sure.2.1 64 = .ok (.iload 4, 2) := by decide +kernel
theorem d_X_sure_66 : decode m_X_sure.2.1 66 = .ok (.iload 7, 2) := by decide +kernel
theorem d_X_sure_68 : decode m_X_sure.2.1 68 = .ok (.ior, 1) := by decide +kernel
theorem d_X_sure_69 : decode m_X_sure.2.1 69 = .ok (.istore 4, 2) := by decide +kernel
theorem d_X_sure_71 : decode m_X_sure.2.1 71 = .ok (.iconst 1, 1) := by decide +kernel
theorem d_X_sure_72 : decode m_X_sure.2.1 72 = .ok (.istore 5, 2) := by decide +kernel
theorem d_X_sure_74 : decode m_X_sure.2.1 74 = .ok (.iinc 6 1, 3) := by decide +kernel
theorem d_X_sure_77 : decode m_X_sure.2.1 77 = .ok (.goto (-43), 3) := by decide +kernel
theorem d_X_sure_80 : decode m_X_sure.2.1 80 = .ok (.iload 5, 2) := by decide +kernel
theorem d_X_sure_82 : decode m_X_sure.2.1 82 = .ok (.ifCond .ne 8, 3) := by decide +kernel
theorem d_X_sure_85 : decode m_X_sure.2.1 85 = .ok (.bipush (-3), 2) := by decide +kernel
theorem d_X_sure_87 : decode m_X_sure.2.1 87 = .ok (.goto 13, 3) := by decide +kernel
theorem d_X_sure_90 : decode m_X_sure.2.1 90 = .ok (.iload_n 2, 1) := by decide +kernel
theorem d_X_sure_91 : decode m_X_sure.2.1 91 = .ok (.ifCond .ne 7, 3) := by decide +kernel
theorem d_X_sure_94 : decode m_X_sure.2.1 94 = .ok (.iload_n 3, 1) := by decide +kernel
theorem d_X_sure_95 : decode m_X_sure.2.1 95 = .ok (.goto 5, 3) := by decide +kernel
theorem d_X_sure_98 : decode m_X_sure.2.1 98 = .ok (.iload 4, 2) := by decide +kernel
theorem d_X_sure_100 : decode m_X_sure.2.1 100 = .ok (.ireturn, 1) := by decide +kernel
theorem d_X_thing_0 : decode m_X_thing.2.1 0 = .ok (.aload_n 0, 1) := by decide +kernel
theorem d_X_thing_1 : decode m_X_thing.2.1 1 = .ok (.iload_n 1, 1) := by decide +kernel
theorem d_X_thing_2 : decode m_X_thing.2.1 2 = .ok (.invokevirtual 83, 3) := by decide +kernel
theorem d_X_thing_5 : decode m_X_thing.2.1 5 = .ok (.ifCond .ne 5, 3) := by decide +kernel
theorem d_X_thing_8 : decode m_X_thing.2.1 8 = .ok (.iconst (-1), 1) := by decide +kernel
theorem d_X_thing_9 : decode m_X_thing.2.1 9 = .ok (.ireturn, 1) := by decide +kernel
theorem d_X_thing_10 : decode m_X_thing.2.1 10 = .ok (.iload_n 2, 1) := by decide +kernel
theorem d_X_thing_11 : decode m_X_thing.2.1 11 = .ok (.iconst 0, 1) := by decide +kernel
theorem d_X_thing_12 : decode m_X_thing.2.1 12 = .ok (.iconst 4, 1) := by decide +kernel
theorem d_X_thing_13 : decode m_X_thing.2.1 13 = .ok (.invokestatic 66, 3) := by decide +kernel
theorem d_X_thing_16 : decode m_X_thing.2.1 16 = .ok (.ifCond .eq 16, 3) := by decide +kernel
theorem d_X_thing_19 : decode m_X_thing.2.1 19 = .ok (.aload_n 0, 1) := by decide +kernel
theorem d_X_thing_20 : decode m_X_thing.2.1 20 = .ok (.getfield 23, 3) := by decide +kernel
theorem d_X_thing_23 : decode m_X_thing.2.1 23 = .ok (.iconst 5, 1) := by decide +kernel
theorem d_X_thing_24 : decode m_X_thing.2.1 24 = .ok (.iload_n 1, 1) := by decide +kernel
theorem d_X_thing_25 : decode m_X_thing.2.1 25 = .ok (.imul, 1) := by decide +kernel
theorem d_X_thing_26 : decode m_X_thing.2.1 26 = .ok (.iload_n 2, 1) := by decide +kernel
theorem d_X_thing_27 : decode m_X_thing.2.1 27 = .ok (.iadd, 1) := by decide +kernel
theorem d_X_thing_28 : decode m_X_thing.2.1 28 = .ok (.iaload, 1) := by decide +kernel
theorem d_X_thing_29 : decode m_X_thing.2.1 29 = .ok (.goto 5, 3) := by decide +kernel
theorem d_X_thing_32 : decode m_X_thing.2.1 32 = .ok (.bipush (-2), 2) := by decide +kernel
theorem d_X_thing_34 : decode m_X_thing.2.1 34 = .ok (.ireturn, 1) := by decide +kernel
theorem d_X_told_0 : decode m_X_told.2.1 0 = .ok (.iload_n 1, 1) := by decide +kernel
theorem d_X_told_1 : decode m_X_told.2.1 1 = .ok (.bipush 10, 2) := by decide +kernel
theorem d_X_told_3 : decode m_X_told.2.1 3 = .ok (.bipush 15, 2) := by decide +kernel
theorem d_X_told_5 : decode m_X_told.2.1 5 = .ok (.invokestatic 66, 3) := by decide +kernel
theorem d_X_told_8 : decode m_X_told.2.1 8 = .ok (.ifCond .eq 13, 3) := by decide +kernel
theorem d_X_told_11 : decode m_X_told.2.1 11 = .ok (.aload_n 0, 1) := by decide +kernel
theorem d_X_told_12 : decode m_X_told.2.1 12 = .ok (.getfield 16, 3) := by decide +kernel
theorem d_X_told_15 : decode m_X_told.2.1 15 = .ok (.iload_n 1, 1) := by decide +kernel
theorem d_X_told_16 : decode m_X_told.2.1 16 = .ok (.bipush 10, 2) := by decide +kernel
theorem d_X_told_18 : decode m_X_told.2.1 18 = .ok (.isub, 1) := by decide +kernel
theorem d_X_told_19 : decode m_X_told.2.1 19 = .ok (.iaload, 1) := by decide +kernel
theorem d_X_told_20 : decode m_X_told.2.1 20 = .ok (.ireturn, 1) := by decide +kernel
theorem d_X_told_21 : decode m_X_told.2.1 21 = .ok (.iload_n 1, 1) := by decide +kernel
theorem d_X_told_22 : decode m_X_told.2.1 22 = .ok (.bipush 20, 2) := by decide +kernel
theorem d_X_told_24 : decode m_X_told.2.1 24 = .ok (.if_icmp .lt 24, 3) := by decide +kernel
theorem d_X_told_27 : decode m_X_told.2.1 27 = .ok (.aload_n 0, 1) := by decide +kernel
theorem d_X_told_28 : decode m_X_told.2.1 28 = .ok (.iload_n 1, 1) := by decide +kernel
theorem d_X_told_29 : decode m_X_told.2.1 29 = .ok (.bipush 20, 2) := by decide +kernel
theorem d_X_told_31 : decode m_X_told.2.1 31 = .ok (.isub, 1) := by decide +kernel
theorem d_X_told_32 : decode m_X_told.2.1 32 = .ok (.invokevirtual 83, 3) := by decide +kernel
theorem d_X_told_35 : decode m_X_told.2.1 35 = .ok (.ifCond .eq 13, 3) := by decide +kernel
theorem d_X_told_38 : decode m_X_told.2.1 38 = .ok (.aload_n 0, 1) := by decide +kernel
theorem d_X_told_39 : decode m_X_told.2.1 39 = .ok (.getfield 26, 3) := by decide +kernel
theorem d_X_told_42 : decode m_X_told.2.1 42 = .ok (.iload_n 1, 1) := by decide +kernel
theorem d_X_told_43 : decode m_X_told.2.1 43 = .ok (.bipush 20, 2) := by decide +kernel
theorem d_X_told_45 : decode m_X_told.2.1 45 = .ok (.isub, 1) := by decide +kernel
theorem d_X_told_46 : decode m_X_told.2.1 46 = .ok (.iaload, 1) := by decide +kernel
theorem d_X_told_47 : decode m_X_told.2.1 47 = .ok (.ireturn, 1) := by decide +kernel
theorem d_X_told_48 : decode m_X_told.2.1 48 = .ok (.iload_n 1, 1) := by decide +kernel
theorem d_X_told_49 : decode m_X_told.2.1 49 = .ok (.tableswitch 60 0 4 #[35, 40, 45, 50, 55], 35) := by decide +kernel
theorem d_X_told_84 : decode m_X_told.2.1 84 = .ok (.aload_n 0, 1) := by decide +kernel
theorem d_X_told_85 : decode m_X_told.2.1 85 = .ok (.getfield 73, 3) := by decide +kernel
theorem d_X_told_88 : decode m_X_told.2.1 88 = .ok (.ireturn, 1) := by decide +kernel
theorem d_X_told_89 : decode m_X_told.2.1 89 = .ok (.aload_n 0, 1) := by decide +kernel
theorem d_X_told_90 : decode m_X_told.2.1 90 = .ok (.getfield 70, 3) := by decide +kernel
theorem d_X_told_93 : decode m_X_told.2.1 93 = .ok (.ireturn, 1) := by decide +kernel
theorem d_X_told_94 : decode m_X_told.2.1 94 = .ok (.aload_n 0, 1) := by decide +kernel
theorem d_X_told_95 : decode m_X_told.2.1 95 = .ok (.getfield 7, 3) := by decide +kernel
theorem d_X_told_98 : decode m_X_told.2.1 98 = .ok (.ireturn, 1) := by decide +kernel
theorem d_X_told_99 : decode m_X_told.2.1 99 = .ok (.aload_n 0, 1) := by decide +kernel
theorem d_X_told_100 : decode m_X_told.2.1 100 = .ok (.getfield 90, 3) := by decide +kernel
theorem d_X_told_103 : decode m_X_told.2.1 103 = .ok (.ireturn, 1) := by decide +kernel
theorem d_X_told_104 : decode m_X_told.2.1 104 = .ok (.aload_n 0, 1) := by decide +kernel
theorem d_X_told_105 : decode m_X_told.2.1 105 = .ok (.getfield 13, 3) := by decide +kernel
theorem d_X_told_108 : decode m_X_told.2.1 108 = .ok (.ireturn, 1) := by decide +kernel
theorem d_X_told_109 : decode m_X_told.2.1 109 = .ok (.iload_n 1, 1) := by decide +kernel
theorem d_X_told_110 : decode m_X_told.2.1 110 = .ok (.iconst 5, 1) := by decide +kernel
theorem d_X_told_111 : decode m_X_told.2.1 111 = .ok (.if_icmp .ne 10, 3) := by decide +kernel
theorem d_X_told_114 : decode m_X_told.2.1 114 = .ok (.aload_n 0, 1) := by decide +kernel
theorem d_X_told_115 : decode m_X_told.2.1 115 = .ok (.getfield 80, 3) := by decide +kernel
theorem d_X_told_118 : decode m_X_told.2.1 118 = .ok (.goto 5, 3) := by decide +kernel
theorem d_X_told_121 : decode m_X_told.2.1 121 = .ok (.bipush (-2), 2) := by decide +kernel
theorem d_X_told_123 : decode m_X_told.2.1 123 = .ok (.ireturn, 1) := by decide +kernel
theorem d_X_touched_0 : decode m_X_touched.2.1 0 = .ok (.aload_n 0, 1) := by decide +kernel
theorem d_X_touched_1 : decode m_X_touched.2.1 1 = .ok (.iload_n 1, 1) := by decide +kernel
theorem d_X_touched_2 : decode m_X_touched.2.1 2 = .ok (.invokevirtual 83, 3) := by decide +kernel
theorem d_X_touched_5 : decode m_X_touched.2.1 5 = .ok (.ifCond .ne 5, 3) := by decide +kernel
theorem d_X_touched_8 : decode m_X_touched.2.1 8 = .ok (.iconst (-1), 1) := by decide +kernel
theorem d_X_touched_9 : decode m_X_touched.2.1 9 = .ok (.ireturn, 1) := by decide +kernel
theorem d_X_touched_10 : decode m_X_touched.2.1 10 = .ok (.aload_n 0, 1) := by decide +kernel
theorem d_X_touched_11 : decode m_X_touched.2.1 11 = .ok (.invokevirtual 116, 3) := by decide +kernel
theorem d_X_touched_14 : decode m_X_touched.2.1 14 = .ok (.iload_n 2, 1) := by decide +kernel
theorem d_X_touched_15 : decode m_X_touched.2.1 15 = .ok (.ifCond .ne 11, 3) := by decide +kernel
theorem d_X_touched_18 : decode m_X_touched.2.1 18 = .ok (.aload_n 0, 1) := by decide +kernel
theorem d_X_touched_19 : decode m_X_touched.2.1 19 = .ok (.iload_n 1, 1) := by decide +kernel
theorem d_X_touched_20 : decode m_X_touched.2.1 20 = .ok (.invokevirtual 102, 3) := by decide +kernel
theorem d_X_touched_23 : decode m_X_touched.2.1 23 = .ok (.goto 31, 3) := by decide +kernel
theorem d_X_touched_26 : decode m_X_touched.2.1 26 = .ok (.iload_n 2, 1) := by decide +kernel
theorem d_X_touched_27 : decode m_X_touched.2.1 27 = .ok (.iconst 1, 1) := by decide +kernel
theorem d_X_touched_28 : decode m_X_touched.2.1 28 = .ok (.if_icmp .ne 11, 3) := by decide +kernel
theorem d_X_touched_31 : decode m_X_touched.2.1 31 = .ok (.aload_n 0, 1) := by decide +kernel
theorem d_X_touched_32 : decode m_X_touched.2.1 32 = .ok (.iload_n 1, 1) := by decide +kernel
theorem d_X_touched_33 : decode m_X_touched.2.1 33 = .ok (.invokevirtual 119, 3) := by decide +kernel
theorem d_X_touched_36 : decode m_X_touched.2.1 36 = .ok (.goto 18, 3) := by decide +kernel
theorem d_X_touched_39 : decode m_X_touched.2.1 39 = .ok (.iload_n 2, 1) := by decide +kernel
theorem d_X_touched_40 : decode m_X_touched.2.1 40 = .ok (.iconst 2, 1) := by decide +kernel
theorem d_X_touched_41 : decode m_X_touched.2.1 41 = .ok (.if_icmp .ne 11, 3) := by decide +kernel
theorem d_X_touched_44 : decode m_X_touched.2.1 44 = .ok (.aload_n 0, 1) := by decide +kernel
theorem d_X_touched_45 : decode m_X_touched.2.1 45 = .ok (.iload_n 1, 1) := by decide +kernel
theorem d_X_touched_46 : decode m_X_touched.2.1 46 = .ok (.invokevirtual 122, 3) := by decide +kernel
theorem d_X_touched_49 : decode m_X_touched.2.1 49 = .ok (.goto 5, 3) := by decide +kernel
theorem d_X_touched_52 : decode m_X_touched.2.1 52 = .ok (.bipush (-2), 2) := by decide +kernel
theorem d_X_touched_54 : decode m_X_touched.2.1 54 = .ok (.ireturn, 1) := by decide +kernel
theorem d_X_touchers_0 : decode m_X_touchers.2.1 0 = .ok (.aload_n 0, 1) := by decide +kernel
theorem d_X_touchers_1 : decode m_X_touchers.2.1 1 = .ok (.iload_n 1, 1) := by decide +kernel
theorem d_X_touchers_2 : decode m_X_touchers.2.1 2 = .ok (.invokevirtual 94, 3) := by decide +kernel
theorem d_X_touchers_5 : decode m_X_touchers.2.1 5 = .ok (.iconst 0, 1) := by decide +kernel
theorem d_X_touchers_6 : decode m_X_touchers.2.1 6 = .ok (.istore_n 2, 1) := by decide +kernel
theorem d_X_touchers_7 : decode m_X_touchers.2.1 7 = .ok (.iconst 0, 1) := by decide +kernel
theorem d_X_touchers_8 : decode m_X_touchers.2.1 8 = .ok (.istore_n 3, 1) := by decide +kernel
theorem d_X_touchers_9 : decode m_X_touchers.2.1 9 = .ok (.iload_n 3, 1) := by decide +kernel
theorem d_X_touchers_10 : decode m_X_touchers.2.1 10 = .ok (.iload_n 1, 1) := by decide +kernel
theorem d_X_touchers_11 : decode m_X_touchers.2.1 11 = .ok (.if_icmp .gt 35, 3) := by decide +kernel
theorem d_X_touchers_14 : decode m_X_touchers.2.1 14 = .ok (.iload_n 2, 1) := by decide +kernel
theorem d_X_touchers_15 : decode m_X_touchers.2.1 15 = .ok (.aload_n 0, 1) := by decide +kernel
theorem d_X_touchers_16 : decode m_X_touchers.2.1 16 = .ok (.getfield 35, 3) := by decide +kernel
theorem d_X_touchers_19 : decode m_X_touchers.2.1 19 = .ok (.iload_n 3, 1) := by decide +kernel
theorem d_X_touchers_20 : decode m_X_touchers.2.1 20 = .ok (.iaload, 1) := by decide +kernel
theorem d_X_touchers_21 : decode m_X_touchers.2.1 21 = .ok (.aload_n 0, 1) := by decide +kernel
theorem d_X_touchers_22 : decode m_X_touchers.2.1 22 = .ok (.getfield 7, 3) := by decide +kernel
theorem d_X_touchers_25 : decode m_X_touchers.2.1 25 = .ok (.if_icmp .gt 12, 3) := by decide +kernel
theorem d_X_touchers_28 : decode m_X_touchers.2.1 28 = .ok (.aload_n 0, 1) := by decide +kernel
theorem d_X_touchers_29 : decode m_X_touchers.2.1 29 = .ok (.getfield 32, 3) := by decide +kernel
theorem d_X_touchers_32 : decode m_X_touchers.2.1 32 = .ok (.iload_n 3, 1) := by decide +kernel
theorem d_X_touchers_33 : decode m_X_touchers.2.1 33 = .ok (.iaload, 1) := by decide +kernel
theorem d_X_touchers_34 : decode m_X_touchers.2.1 34 = .ok (.goto 4, 3) := by decide +kernel
theorem d_X_touchers_37 : decode m_X_touchers.2.1 37 = .ok (.iconst 0, 1) := by decide +kernel
theorem d_X_touchers_38 : decode m_X_touchers.2.1 38 = .ok (.ior, 1) := by decide +kernel
theorem d_X_touchers_39 : decode m_X_touchers.2.1 39 = .ok (.istore_n 2, 1) := by decide +kernel
theorem d_X_touchers_40 : decode m_X_touchers.2.1 40 = .ok (.iinc 3 1, 3) := by decide +kernel
theorem d_X_touchers_43 : decode m_X_touchers.2.1 43 = .ok (.goto (-34), 3) := by decide +kernel
theorem d_X_touchers_46 : decode m_X_touchers.2.1 46 = .ok (.iload_n 2, 1) := by decide +kernel
theorem d_X_touchers_47 : decode m_X_touchers.2.1 47 = .ok (.ireturn, 1) := by decide +kernel
theorem d_X_walk_0 : decode m_X_walk.2.1 0 = .ok (.iconst 0, 1) := by decide +kernel
theorem d_X_walk_1 : decode m_X_walk.2.1 1 = .ok (.istore_n 2, 1) := by decide +kernel
theorem d_X_walk_2 : decode m_X_walk.2.1 2 = .ok (.iload_n 2, 1) := by decide +kernel
theorem d_X_walk_3 : decode m_X_walk.2.1 3 = .ok (.bipush 10, 2) := by decide +kernel
theorem d_X_walk_5 : decode m_X_walk.2.1 5 = .ok (.if_icmp .ge 17, 3) := by decide +kernel
theorem d_X_walk_8 : decode m_X_walk.2.1 8 = .ok (.aload_n 0, 1) := by decide +kernel
theorem d_X_walk_9 : decode m_X_walk.2.1 9 = .ok (.getfield 35, 3) := by decide +kernel
theorem d_X_walk_12 : decode m_X_walk.2.1 12 = .ok (.iload_n 2, 1) := by decide +kernel
theorem d_X_walk_13 : decode m_X_walk.2.1 13 = .ok (.ldc 93, 2) := by decide +kernel
theorem d_X_walk_15 : decode m_X_walk.2.1 15 = .ok (.iastore, 1) := by decide +kernel
theorem d_X_walk_16 : decode m_X_walk.2.1 16 = .ok (.iinc 2 1, 3) := by decide +kernel
theorem d_X_walk_19 : decode m_X_walk.2.1 19 = .ok (.goto (-17), 3) := by decide +kernel
theorem d_X_walk_22 : decode m_X_walk.2.1 22 = .ok (.aload_n 0, 1) := by decide +kernel
theorem d_X_walk_23 : decode m_X_walk.2.1 23 = .ok (.getfield 35, 3) := by decide +kernel
theorem d_X_walk_26 : decode m_X_walk.2.1 26 = .ok (.iload_n 1, 1) := by decide +kernel
theorem d_X_walk_27 : decode m_X_walk.2.1 27 = .ok (.iconst 0, 1) := by decide +kernel
theorem d_X_walk_28 : decode m_X_walk.2.1 28 = .ok (.iastore, 1) := by decide +kernel
theorem d_X_walk_29 : decode m_X_walk.2.1 29 = .ok (.iload_n 1, 1) := by decide +kernel
theorem d_X_walk_30 : decode m_X_walk.2.1 30 = .ok (.istore_n 2, 1) := by decide +kernel
theorem d_X_walk_31 : decode m_X_walk.2.1 31 = .ok (.iload_n 2, 1) := by decide +kernel
theorem d_X_walk_32 : decode m_X_walk.2.1 32 = .ok (.ifCond .lt 101, 3) := by decide +kernel
theorem d_X_walk_35 : decode m_X_walk.2.1 35 = .ok (.iconst 1, 1) := by decide +kernel
theorem d_X_walk_36 : decode m_X_walk.2.1 36 = .ok (.istore_n 3, 1) := by decide +kernel
theorem d_X_walk_37 : decode m_X_walk.2.1 37 = .ok (.iload_n 3, 1) := by decide +kernel
theorem d_X_walk_38 : decode m_X_walk.2.1 38 = .ok (.iconst 4, 1) := by decide +kernel
theorem d_X_walk_39 : decode m_X_walk.2.1 39 = .ok (.if_icmp .ge 88, 3) := by decide +kernel
theorem d_X_walk_42 : decode m_X_walk.2.1 42 = .ok (.aload_n 0, 1) := by decide +kernel
theorem d_X_walk_43 : decode m_X_walk.2.1 43 = .ok (.getfield 35, 3) := by decide +kernel
theorem d_X_walk_46 : decode m_X_walk.2.1 46 = .ok (.iload_n 2, 1) := by decide +kernel
theorem d_X_walk_47 : decode m_X_walk.2.1 47 = .ok (.iaload, 1) := by decide +kernel
theorem d_X_walk_48 : decode m_X_walk.2.1 48 = .ok (.ldc 93, 2) := by decide +kernel
theorem d_X_walk_50 : decode m_X_walk.2.1 50 = .ok (.if_icmp .ge 77, 3) := by decide +kernel
theorem d_X_walk_53 : decode m_X_walk.2.1 53 = .ok (.iload_n 3, 1) := by decide +kernel
theorem d_X_walk_54 : decode m_X_walk.2.1 54 = .ok (.iconst 3, 1) := by decide +kernel
theorem d_X_walk_55 : decode m_X_walk.2.1 55 = .ok (.if_icmp .lt 11, 3) := by decide +kernel
theorem d_X_walk_58 : decode m_X_walk.2.1 58 = .ok (.aload_n 0, 1) := by decide +kernel
theorem d_X_walk_59 : decode m_X_walk.2.1 59 = .ok (.getfield 90, 3) := by decide +kernel
theorem d_X_walk_62 : decode m_X_walk.2.1 62 = .ok (.iconst 1, 1) := by decide +kernel
theorem d_X_walk_63 : decode m_X_walk.2.1 63 = .ok (.if_icmp .ne 16, 3) := by decide +kernel
theorem d_X_walk_66 : decode m_X_walk.2.1 66 = .ok (.aload_n 0, 1) := by decide +kernel
theorem d_X_walk_67 : decode m_X_walk.2.1 67 = .ok (.getfield 23, 3) := by decide +kernel
theorem d_X_walk_70 : decode m_X_walk.2.1 70 = .ok (.iconst 5, 1) := by decide +kernel
theorem d_X_walk_71 : decode m_X_walk.2.1 71 = .ok (.iload_n 2, 1) := by decide +kernel
theorem d_X_walk_72 : decode m_X_walk.2.1 72 = .ok (.imul, 1) := by decide +kernel
theorem d_X_walk_73 : decode m_X_walk.2.1 73 = .ok (.iload_n 3, 1) := by decide +kernel
theorem d_X_walk_74 : decode m_X_walk.2.1 74 = .ok (.iadd, 1) := by decide +kernel
theorem d_X_walk_75 : decode m_X_walk.2.1 75 = .ok (.iaload, 1) := by decide +kernel
theorem d_X_walk_76 : decode m_X_walk.2.1 76 = .ok (.goto 5, 3) := by decide +kernel
theorem d_X_walk_79 : decode m_X_walk.2.1 79 = .ok (.bipush (-6), 2) := by decide +kernel
theorem d_X_walk_81 : decode m_X_walk.2.1 81 = .ok (.istore 4, 2) := by decide +kernel
theorem d_X_walk_83 : decode m_X_walk.2.1 83 = .ok (.iload 4, 2) := by decide +kernel
theorem d_X_walk_85 : decode m_X_walk.2.1 85 = .ok (.ifCond .lt 36, 3) := by decide +kernel
theorem d_X_walk_88 : decode m_X_walk.2.1 88 = .ok (.aload_n 0, 1) := by decide +kernel
theorem d_X_walk_89 : decode m_X_walk.2.1 89 = .ok (.getfield 35, 3) := by decide +kernel
theorem d_X_walk_92 : decode m_X_walk.2.1 92 = .ok (.iload_n 2, 1) := by decide +kernel
theorem d_X_walk_93 : decode m_X_walk.2.1 93 = .ok (.iaload, 1) := by decide +kernel
theorem d_X_walk_94 : decode m_X_walk.2.1 94 = .ok (.iconst 1, 1) := by decide +kernel
theorem d_X_walk_95 : decode m_X_walk.2.1 95 = .ok (.iadd, 1) := by decide +kernel
theorem d_X_walk_96 : decode m_X_walk.2.1 96 = .ok (.aload_n 0, 1) := by decide +kernel
theorem d_X_walk_97 : decode m_X_walk.2.1 97 = .ok (.getfield 35, 3) := by decide +kernel
theorem d_X_walk_100 : decode m_X_walk.2.1 100 = .ok (.iload 4, 2) := by decide +kernel
theorem d_X_walk_102 : decode m_X_walk.2.1 102 = .ok (.iaload, 1) := by decide +kernel
theorem d_X_walk_103 : decode m_X_walk.2.1 103 = .ok (.if_icmp .ge 18, 3) := by decide +kernel
theorem d_X_walk_106 : decode m_X_walk.2.1 106 = .ok (.aload_n 0, 1) := by decide +kernel
theorem d_X_walk_107 : decode m_X_walk.2.1 107 = .ok (.getfield 35, 3) := by decide +kernel
theorem d_X_walk_110 : decode m_X_walk.2.1 110 = .ok (.iload 4, 2) := by decide +kernel
theorem d_X_walk_112 : decode m_X_walk.2.1 112 = .ok (.aload_n 0, 1) := by decide +kernel
theorem d_X_walk_113 : decode m_X_walk.2.1 113 = .ok (.getfield 35, 3) := by decide +kernel
theorem d_X_walk_116 : decode m_X_walk.2.1 116 = .ok (.iload_n 2, 1) := by decide +kernel
theorem d_X_walk_117 : decode m_X_walk.2.1 117 = .ok (.iaload, 1) := by decide +kernel
theorem d_X_walk_118 : decode m_X_walk.2.1 118 = .ok (.iconst 1, 1) := by decide +kernel
theorem d_X_walk_119 : decode m_X_walk.2.1 119 = .ok (.iadd, 1) := by decide +kernel
theorem d_X_walk_120 : decode m_X_walk.2.1 120 = .ok (.iastore, 1) := by decide +kernel
theorem d_X_walk_121 : decode m_X_walk.2.1 121 = .ok (.iinc 3 1, 3) := by decide +kernel
theorem d_X_walk_124 : decode m_X_walk.2.1 124 = .ok (.goto (-87), 3) := by decide +kernel
theorem d_X_walk_127 : decode m_X_walk.2.1 127 = .ok (.iinc 2 (-1), 3) := by decide +kernel
theorem d_X_walk_130 : decode m_X_walk.2.1 130 = .ok (.goto (-99), 3) := by decide +kernel
theorem d_X_walk_133 : decode m_X_walk.2.1 133 = .ok (.return_, 1) := by decide +kernel
theorem d_X_washed_0 : decode m_X_washed.2.1 0 = .ok (.aload_n 0, 1) := by decide +kernel
theorem d_X_washed_1 : decode m_X_washed.2.1 1 = .ok (.iload_n 1, 1) := by decide +kernel
theorem d_X_washed_2 : decode m_X_washed.2.1 2 = .ok (.invokevirtual 83, 3) := by decide +kernel
theorem d_X_washed_5 : decode m_X_washed.2.1 5 = .ok (.ifCond .eq 10, 3) := by decide +kernel
theorem d_X_washed_8 : decode m_X_washed.2.1 8 = .ok (.iload_n 2, 1) := by decide +kernel
theorem d_X_washed_9 : decode m_X_washed.2.1 9 = .ok (.invokestatic 87, 3) := by decide +kernel
theorem d_X_washed_12 : decode m_X_washed.2.1 12 = .ok (.ifCond .ne 5, 3) := by decide +kernel
theorem d_X_washed_15 : decode m_X_washed.2.1 15 = .ok (.iconst (-1), 1) := by decide +kernel
theorem d_X_washed_16 : decode m_X_washed.2.1 16 = .ok (.ireturn, 1) := by decide +kernel
theorem d_X_washed_17 : decode m_X_washed.2.1 17 = .ok (.aload_n 0, 1) := by decide +kernel
theorem d_X_washed_18 : decode m_X_washed.2.1 18 = .ok (.iload_n 1, 1) := by decide +kernel
theorem d_X_washed_19 : decode m_X_washed.2.1 19 = .ok (.iload_n 2, 1) := by decide +kernel
theorem d_X_washed_20 : decode m_X_washed.2.1 20 = .ok (.invokevirtual 128, 3) := by decide +kernel
theorem d_X_washed_23 : decode m_X_washed.2.1 23 = .ok (.istore_n 3, 1) := by decide +kernel
theorem d_X_washed_24 : decode m_X_washed.2.1 24 = .ok (.aload_n 0, 1) := by decide +kernel
theorem d_X_washed_25 : decode m_X_washed.2.1 25 = .ok (.getfield 16, 3) := by decide +kernel
theorem d_X_washed_28 : decode m_X_washed.2.1 28 = .ok (.iload_n 2, 1) := by decide +kernel
theorem d_X_washed_29 : decode m_X_washed.2.1 29 = .ok (.iaload, 1) := by decide +kernel
theorem d_X_washed_30 : decode m_X_washed.2.1 30 = .ok (.ifCond .lt 17, 3) := by decide +kernel
theorem d_X_washed_33 : decode m_X_washed.2.1 33 = .ok (.aload_n 0, 1) := by decide +kernel
theorem d_X_washed_34 : decode m_X_washed.2.1 34 = .ok (.iload_n 1, 1) := by decide +kernel
theorem d_X_washed_35 : decode m_X_washed.2.1 35 = .ok (.aload_n 0, 1) := by decide +kernel
theorem d_X_washed_36 : decode m_X_washed.2.1 36 = .ok (.getfield 16, 3) := by decide +kernel
theorem d_X_washed_39 : decode m_X_washed.2.1 39 = .ok (.iload_n 2, 1) := by decide +kernel
theorem d_X_washed_40 : decode m_X_washed.2.1 40 = .ok (.iaload, 1) := by decide +kernel
theorem d_X_washed_41 : decode m_X_washed.2.1 41 = .ok (.invokevirtual 128, 3) := by decide +kernel
theorem d_X_washed_44 : decode m_X_washed.2.1 44 = .ok (.goto 5, 3) := by decide +kernel
theorem d_X_washed_47 : decode m_X_washed.2.1 47 = .ok (.ldc 93, 2) := by decide +kernel
theorem d_X_washed_49 : decode m_X_washed.2.1 49 = .ok (.istore 4, 2) := by decide +kernel
theorem d_X_washed_51 : decode m_X_washed.2.1 51 = .ok (.iload_n 3, 1) := by decide +kernel
theorem d_X_washed_52 : decode m_X_washed.2.1 52 = .ok (.iload 4, 2) := by decide +kernel
theorem d_X_washed_54 : decode m_X_washed.2.1 54 = .ok (.if_icmp .ge 7, 3) := by decide +kernel
theorem d_X_washed_57 : decode m_X_washed.2.1 57 = .ok (.iload_n 3, 1) := by decide +kernel
theorem d_X_washed_58 : decode m_X_washed.2.1 58 = .ok (.goto 5, 3) := by decide +kernel
theorem d_X_washed_61 : decode m_X_washed.2.1 61 = .ok (.iload 4, 2) := by decide +kernel
theorem d_X_washed_63 : decode m_X_washed.2.1 63 = .ok (.istore 5, 2) := by decide +kernel
theorem d_X_washed_65 : decode m_X_washed.2.1 65 = .ok (.iload 5, 2) := by decide +kernel
theorem d_X_washed_67 : decode m_X_washed.2.1 67 = .ok (.aload_n 0, 1) := by decide +kernel
theorem d_X_washed_68 : decode m_X_washed.2.1 68 = .ok (.getfield 7, 3) := by decide +kernel
theorem d_X_washed_71 : decode m_X_washed.2.1 71 = .ok (.if_icmp .le 7, 3) := by decide +kernel
theorem d_X_washed_74 : decode m_X_washed.2.1 74 = .ok (.iconst 0, 1) := by decide +kernel
theorem d_X_washed_75 : decode m_X_washed.2.1 75 = .ok (.goto 12, 3) := by decide +kernel
theorem d_X_washed_78 : decode m_X_washed.2.1 78 = .ok (.aload_n 0, 1) := by decide +kernel
theorem d_X_washed_79 : decode m_X_washed.2.1 79 = .ok (.getfield 7, 3) := by decide +kernel
theorem d_X_washed_82 : decode m_X_washed.2.1 82 = .ok (.iload 5, 2) := by decide +kernel
theorem d_X_washed_84 : decode m_X_washed.2.1 84 = .ok (.isub, 1) := by decide +kernel
theorem d_X_washed_85 : decode m_X_washed.2.1 85 = .ok (.iconst 1, 1) := by decide +kernel
theorem d_X_washed_86 : decode m_X_washed.2.1 86 = .ok (.iadd, 1) := by decide +kernel
theorem d_X_washed_87 : decode m_X_washed.2.1 87 = .ok (.ireturn, 1) := by decide +kernel
theorem d_X_wipe_0 : decode m_X_wipe.2.1 0 = .ok (.aload_n 0, 1) := by decide +kernel
theorem d_X_wipe_1 : decode m_X_wipe.2.1 1 = .ok (.getfield 73, 3) := by decide +kernel
theorem d_X_wipe_4 : decode m_X_wipe.2.1 4 = .ok (.istore_n 1, 1) := by decide +kernel
theorem d_X_wipe_5 : decode m_X_wipe.2.1 5 = .ok (.aload_n 0, 1) := by decide +kernel
theorem d_X_wipe_6 : decode m_X_wipe.2.1 6 = .ok (.iconst 0, 1) := by decide +kernel
theorem d_X_wipe_7 : decode m_X_wipe.2.1 7 = .ok (.putfield 73, 3) := by decide +kernel
theorem d_X_wipe_10 : decode m_X_wipe.2.1 10 = .ok (.iload_n 1, 1) := by decide +kernel
theorem d_X_wipe_11 : decode m_X_wipe.2.1 11 = .ok (.ireturn, 1) := by decide +kernel
theorem d_X_withPartners_0 : decode m_X_withPartners.2.1 0 = .ok (.iload_n 1, 1) := by decide +kernel
theorem d_X_withPartners_1 : decode m_X_withPartners.2.1 1 = .ok (.istore_n 2, 1) := by decide +kernel
theorem d_X_withPartners_2 : decode m_X_withPartners.2.1 2 = .ok (.iconst 0, 1) := by decide +kernel
theorem d_X_withPartners_3 : decode m_X_withPartners.2.1 3 = .ok (.istore_n 3, 1) := by decide +kernel
theorem d_X_withPartners_4 : decode m_X_withPartners.2.1 4 = .ok (.iload_n 3, 1) := by decide +kernel
theorem d_X_withPartners_5 : decode m_X_withPartners.2.1 5 = .ok (.bipush 6, 2) := by decide +kernel
theorem d_X_withPartners_7 : decode m_X_withPartners.2.1 7 = .ok (.if_icmp .ge 41, 3) := by decide +kernel
theorem d_X_withPartners_10 : decode m_X_withPartners.2.1 10 = .ok (.iload_n 2, 1) := by decide +kernel
theorem d_X_withPartners_11 : decode m_X_withPartners.2.1 11 = .ok (.iload_n 1, 1) := by decide +kernel
theorem d_X_withPartners_12 : decode m_X_withPartners.2.1 12 = .ok (.iload_n 3, 1) := by decide +kernel
theorem d_X_withPartners_13 : decode m_X_withPartners.2.1 13 = .ok (.invokestatic 98, 3) := by decide +kernel
theorem d_X_withPartners_16 : decode m_X_withPartners.2.1 16 = .ok (.ifCond .eq 23, 3) := by decide +kernel
theorem d_X_withPartners_19 : decode m_X_withPartners.2.1 19 = .ok (.aload_n 0, 1) := by decide +kernel
theorem d_X_withPartners_20 : decode m_X_withPartners.2.1 20 = .ok (.getfield 16, 3) := by decide +kernel
theorem d_X_withPartners_23 : decode m_X_withPartners.2.1 23 = .ok (.iload_n 3, 1) := by decide +kernel
theorem d_X_withPartners_24 : decode m_X_withPartners.2.1 24 = .ok (.iaload, 1) := by decide +kernel
theorem d_X_withPartners_25 : decode m_X_withPartners.2.1 25 = .ok (.ifCond .lt 14, 3) := by decide +kernel
theorem d_X_withPartners_28 : decode m_X_withPartners.2.1 28 = .ok (.iconst 1, 1) := by decide +kernel
theorem d_X_withPartners_29 : decode m_X_withPartners.2.1 29 = .ok (.aload_n 0, 1) := by decide +kernel
theorem d_X_withPartners_30 : decode m_X_withPartners.2.1 30 = .ok (.getfield 16, 3) := by decide +kernel
theorem d_X_withPartners_33 : decode m_X_withPartners.2.1 33 = .ok (.iload_n 3, 1) := by decide +kernel
theorem d_X_withPartners_34 : decode m_X_withPartners.2.1 34 = .ok (.iaload, 1) := by decide +kernel
theorem d_X_withPartners_35 : decode m_X_withPartners.2.1 35 = .ok (.ishl, 1) := by decide +kernel
theorem d_X_withPartners_36 : decode m_X_withPartners.2.1 36 = .ok (.goto 4, 3) := by decide +kernel
theorem d_X_withPartners_39 : decode m_X_withPartners.2.1 39 = .ok (.iconst 0, 1) := by decide +kernel
theorem d_X_withPartners_40 : decode m_X_withPartners.2.1 40 = .ok (.ior, 1) := by decide +kernel
theorem d_X_withPartners_41 : decode m_X_withPartners.2.1 41 = .ok (.istore_n 2, 1) := by decide +kernel
theorem d_X_withPartners_42 : decode m_X_withPartners.2.1 42 = .ok (.iinc 3 1, 3) := by decide +kernel
theorem d_X_withPartners_45 : decode m_X_withPartners.2.1 45 = .ok (.goto (-41), 3) := by decide +kernel
theorem d_X_withPartners_48 : decode m_X_withPartners.2.1 48 = .ok (.iload_n 2, 1) := by decide +kernel
theorem d_X_withPartners_49 : decode m_X_withPartners.2.1 49 = .ok (.ireturn, 1) := by decide +kernel
end
section
theorem gf_O_12 : zGF "OthersHands" 12 8 0 := ⟨_, _, _, rfl, zi_O, by decide, (zg_1 (List.mem_of_getElem? (i := 215) rfl) rfl)⟩
theorem pf_O_12 : zPF "OthersHands" 12 8 0 true (.object "OthersHands$Pad") := ⟨_, _, _, _, rfl, zi_O, by decide, (zg_1 (List.mem_of_getElem? (i := 215) rfl) rfl), zo_O, zn_O, rfl, by decide +kernel, rfl⟩
theorem gf_O_19 : zGF "OthersHands" 19 8 1 := ⟨_, _, _, rfl, zi_O, by decide, (zg_1 (List.mem_of_getElem? (i := 216) rfl) rfl)⟩
theorem pf_O_19 : zPF "OthersHands" 19 8 1 true (.object "OthersHands$Reader") := ⟨_, _, _, _, rfl, zi_O, by decide, (zg_1 (List.mem_of_getElem? (i := 216) rfl) rfl), zo_O, zn_O, rfl, by decide +kernel, rfl⟩
theorem gf_O_26 : zGF "OthersHands" 26 8 2 := ⟨_, _, _, rfl, zi_O, by decide, (zg_1 (List.mem_of_getElem? (i := 217) rfl) rfl)⟩
theorem pf_O_26 : zPF "OthersHands" 26 8 2 true (.object "OthersHands$Town") := ⟨_, _, _, _, rfl, zi_O, by decide, (zg_1 (List.mem_of_getElem? (i := 217) rfl) rfl), zo_O, zn_O, rfl, by decide +kernel, rfl⟩
theorem gf_O_30 : zGF "OthersHands" 30 8 3 := ⟨_, _, _, rfl, zi_O, by decide, (zg_1 (List.mem_of_getElem? (i := 218) rfl) rfl)⟩
theorem pf_O_30 : zPF "OthersHands" 30 8 3 true (.array (.object "OthersHands$Town")) := ⟨_, _, _, _, rfl, zi_O, by decide, (zg_1 (List.mem_of_getElem? (i := 218) rfl) rfl), zo_O, zn_O, rfl, by decide +kernel, rfl⟩
theorem gf_O_37 : zGF "OthersHands" 37 8 4 := ⟨_, _, _, rfl, zi_O, by decide, (zg_1 (List.mem_of_getElem? (i := 219) rfl) rfl)⟩
theorem pf_O_37 : zPF "OthersHands" 37 8 4 true (.object "OthersHands$Shares") := ⟨_, _, _, _, rfl, zi_O, by decide, (zg_1 (List.mem_of_getElem? (i := 219) rfl) rfl), zo_O, zn_O, rfl, by decide +kernel, rfl⟩
theorem gf_O_44 : zGF "OthersHands" 44 8 5 := ⟨_, _, _, rfl, zi_O, by decide, (zg_1 (List.mem_of_getElem? (i := 220) rfl) rfl)⟩
theorem pf_O_44 : zPF "OthersHands" 44 8 5 true (.object "OthersHands$Filling") := ⟨_, _, _, _, rfl, zi_O, by decide, (zg_1 (List.mem_of_getElem? (i := 220) rfl) rfl), zo_O, zn_O, rfl, by decide +kernel, rfl⟩
theorem gf_O_51 : zGF "OthersHands" 51 8 6 := ⟨_, _, _, rfl, zi_O, by decide, (zg_1 (List.mem_of_getElem? (i := 221) rfl) rfl)⟩
theorem pf_O_51 : zPF "OthersHands" 51 8 6 true (.object "OthersHands$Bread") := ⟨_, _, _, _, rfl, zi_O, by decide, (zg_1 (List.mem_of_getElem? (i := 221) rfl) rfl), zo_O, zn_O, rfl, by decide +kernel, rfl⟩
theorem gf_O_58 : zGF "OthersHands" 58 8 7 := ⟨_, _, _, rfl, zi_O, by decide, (zg_1 (List.mem_of_getElem? (i := 222) rfl) rfl)⟩
theorem pf_O_58 : zPF "OthersHands" 58 8 7 true (.object "OthersHands$Matchmaker") := ⟨_, _, _, _, rfl, zi_O, by decide, (zg_1 (List.mem_of_getElem? (i := 222) rfl) rfl), zo_O, zn_O, rfl, by decide +kernel, rfl⟩
theorem gf_O_74 : zGF "OthersHands" 74 5 0 := ⟨_, _, _, rfl, zi_Reader, by decide, (zg_1 (List.mem_of_getElem? (i := 91) rfl) rfl)⟩
theorem gf_O_82 : zGF "OthersHands" 82 7 0 := ⟨_, _, _, rfl, zi_Town, by decide, (zg_1 (List.mem_of_getElem? (i := 111) rfl) rfl)⟩
theorem gf_O_85 : zGF "OthersHands" 85 4 5 := ⟨_, _, _, rfl, zi_Pages, by decide, (zg_1 (List.mem_of_getElem? (i := 75) rfl) rfl)⟩
theorem gf_O_95 : zGF "OthersHands" 95 4 0 := ⟨_, _, _, rfl, zi_Pages, by decide, (zg_1 (List.mem_of_getElem? (i := 55) rfl) rfl)⟩
theorem gf_O_99 : zGF "OthersHands" 99 4 1 := ⟨_, _, _, rfl, zi_Pages, by decide, (zg_1 (List.mem_of_getElem? (i := 60) rfl) rfl)⟩
theorem gf_O_102 : zGF "OthersHands" 102 4 2 := ⟨_, _, _, rfl, zi_Pages, by decide, (zg_1 (List.mem_of_getElem? (i := 64) rfl) rfl)⟩
theorem gf_O_105 : zGF "OthersHands" 105 4 3 := ⟨_, _, _, rfl, zi_Pages, by decide, (zg_1 (List.mem_of_getElem? (i := 67) rfl) rfl)⟩
theorem gf_O_108 : zGF "OthersHands" 108 4 4 := ⟨_, _, _, rfl, zi_Pages, by decide, (zg_1 (List.mem_of_getElem? (i := 70) rfl) rfl)⟩
theorem gf_O_114 : zGF "OthersHands" 114 7 1 := ⟨_, _, _, rfl, zi_Town, by decide, (zg_1 (List.mem_of_getElem? (i := 114) rfl) rfl)⟩
theorem gf_O_124 : zGF "OthersHands" 124 7 2 := ⟨_, _, _, rfl, zi_Town, by decide, (zg_1 (List.mem_of_getElem? (i := 117) rfl) rfl)⟩
theorem gf_O_133 : zGF "OthersHands" 133 7 8 := ⟨_, _, _, rfl, zi_Town, by decide, (zg_1 (List.mem_of_getElem? (i := 130) rfl) rfl)⟩
theorem gf_O_192 : zGF "OthersHands" 192 0 2 := ⟨_, _, _, rfl, zi_Bread, by decide, (zg_1 (List.mem_of_getElem? (i := 190) rfl) rfl)⟩
theorem gf_O_211 : zGF "OthersHands" 211 7 6 := ⟨_, _, _, rfl, zi_Town, by decide, (zg_1 (List.mem_of_getElem? (i := 126) rfl) rfl)⟩
theorem gf_O_223 : zGF "OthersHands" 223 2 2 := ⟨_, _, _, rfl, zi_Matchmaker, by decide, (zg_1 (List.mem_of_getElem? (i := 207) rfl) rfl)⟩
theorem gf_O_229 : zGF "OthersHands" 229 0 1 := ⟨_, _, _, rfl, zi_Bread, by decide, (zg_1 (List.mem_of_getElem? (i := 188) rfl) rfl)⟩
theorem gf_O_235 : zGF "OthersHands" 235 3 1 := ⟨_, _, _, rfl, zi_Pad, by decide, (zg_1 (List.mem_of_getElem? (i := 33) rfl) rfl)⟩
theorem gf_O_236 : zGF "OthersHands" 236 7 7 := ⟨_, _, _, rfl, zi_Town, by decide, (zg_1 (List.mem_of_getElem? (i := 128) rfl) rfl)⟩
theorem gf_O_239 : zGF "OthersHands" 239 7 5 := ⟨_, _, _, rfl, zi_Town, by decide, (zg_1 (List.mem_of_getElem? (i := 124) rfl) rfl)⟩
theorem gf_Bread_9 : zGF "OthersHands$Bread" 9 0 0 := ⟨_, _, _, rfl, zi_Bread, by decide, (zg_1 (List.mem_of_getElem? (i := 186) rfl) rfl)⟩
theorem pf_Bread_9 : zPF "OthersHands$Bread" 9 0 0 true (.array .int) := ⟨_, _, _, _, rfl, zi_Bread, by decide, (zg_1 (List.mem_of_getElem? (i := 186) rfl) rfl), zo_Bread, zn_Bread, rfl, by decide +kernel, rfl⟩
theorem gf_Bread_15 : zGF "OthersHands$Bread" 15 0 1 := ⟨_, _, _, rfl, zi_Bread, by decide, (zg_1 (List.mem_of_getElem? (i := 187) rfl) rfl)⟩
theorem pf_Bread_15 : zPF "OthersHands$Bread" 15 0 1 true (.array .int) := ⟨_, _, _, _, rfl, zi_Bread, by decide, (zg_1 (List.mem_of_getElem? (i := 187) rfl) rfl), zo_Bread, zn_Bread, rfl, by decide +kernel, rfl⟩
theorem gf_Bread_18 : zGF "OthersHands$Bread" 18 0 2 := ⟨_, _, _, rfl, zi_Bread, by decide, (zg_1 (List.mem_of_getElem? (i := 189) rfl) rfl)⟩
theorem pf_Bread_18 : zPF "OthersHands$Bread" 18 0 2 true (.array .int) := ⟨_, _, _, _, rfl, zi_Bread, by decide, (zg_1 (List.mem_of_getElem? (i := 189) rfl) rfl), zo_Bread, zn_Bread, rfl, by decide +kernel, rfl⟩
theorem gf_Bread_27 : zGF "OthersHands$Bread" 27 7 2 := ⟨_, _, _, rfl, zi_Town, by decide, (zg_1 (List.mem_of_getElem? (i := 116) rfl) rfl)⟩
theorem gf_Filling_9 : zGF "OthersHands$Filling" 9 1 0 := ⟨_, _, _, rfl, zi_Filling, by decide, (zg_1 (List.mem_of_getElem? (i := 167) rfl) rfl)⟩
theorem pf_Filling_9 : zPF "OthersHands$Filling" 9 1 0 true (.array .int) := ⟨_, _, _, _, rfl, zi_Filling, by decide, (zg_1 (List.mem_of_getElem? (i := 167) rfl) rfl), zo_Filling, zn_Filling, rfl, by decide +kernel, rfl⟩
theorem gf_Filling_15 : zGF "OthersHands$Filling" 15 1 1 := ⟨_, _, _, rfl, zi_Filling, by decide, (zg_1 (List.mem_of_getElem? (i := 168) rfl) rfl)⟩
theorem pf_Filling_15 : zPF "OthersHands$Filling" 15 1 1 true (.array .int) := ⟨_, _, _, _, rfl, zi_Filling, by decide, (zg_1 (List.mem_of_getElem? (i := 168) rfl) rfl), zo_Filling, zn_Filling, rfl, by decide +kernel, rfl⟩
theorem gf_Filling_18 : zGF "OthersHands$Filling" 18 7 0 := ⟨_, _, _, rfl, zi_Town, by decide, (zg_1 (List.mem_of_getElem? (i := 110) rfl) rfl)⟩
theorem gf_Filling_28 : zGF "OthersHands$Filling" 28 1 3 := ⟨_, _, _, rfl, zi_Filling, by decide, (zg_1 (List.mem_of_getElem? (i := 170) rfl) rfl)⟩
theorem pf_Filling_28 : zPF "OthersHands$Filling" 28 1 3 false (.boolean) := ⟨_, _, _, _, rfl, zi_Filling, by decide, (zg_1 (List.mem_of_getElem? (i := 170) rfl) rfl), zo_Filling, zn_Filling, rfl, by decide +kernel, rfl⟩
theorem gf_Filling_32 : zGF "OthersHands$Filling" 32 7 5 := ⟨_, _, _, rfl, zi_Town, by decide, (zg_1 (List.mem_of_getElem? (i := 122) rfl) rfl)⟩
theorem gf_Filling_36 : zGF "OthersHands$Filling" 36 7 4 := ⟨_, _, _, rfl, zi_Town, by decide, (zg_1 (List.mem_of_getElem? (i := 121) rfl) rfl)⟩
theorem gf_Filling_43 : zGF "OthersHands$Filling" 43 7 3 := ⟨_, _, _, rfl, zi_Town, by decide, (zg_1 (List.mem_of_getElem? (i := 119) rfl) rfl)⟩
theorem gf_Filling_53 : zGF "OthersHands$Filling" 53 1 2 := ⟨_, _, _, rfl, zi_Filling, by decide, (zg_1 (List.mem_of_getElem? (i := 169) rfl) rfl)⟩
theorem pf_Filling_53 : zPF "OthersHands$Filling" 53 1 2 false (.int) := ⟨_, _, _, _, rfl, zi_Filling, by decide, (zg_1 (List.mem_of_getElem? (i := 169) rfl) rfl), zo_Filling, zn_Filling, rfl, by decide +kernel, rfl⟩
theorem gf_Filling_56 : zGF "OthersHands$Filling" 56 4 5 := ⟨_, _, _, rfl, zi_Pages, by decide, (zg_1 (List.mem_of_getElem? (i := 74) rfl) rfl)⟩
theorem gf_Filling_61 : zGF "OthersHands$Filling" 61 4 4 := ⟨_, _, _, rfl, zi_Pages, by decide, (zg_1 (List.mem_of_getElem? (i := 69) rfl) rfl)⟩
theorem gf_Filling_64 : zGF "OthersHands$Filling" 64 4 0 := ⟨_, _, _, rfl, zi_Pages, by decide, (zg_1 (List.mem_of_getElem? (i := 54) rfl) rfl)⟩
theorem gf_Matchmaker_9 : zGF "OthersHands$Matchmaker" 9 2 0 := ⟨_, _, _, rfl, zi_Matchmaker, by decide, (zg_1 (List.mem_of_getElem? (i := 204) rfl) rfl)⟩
theorem pf_Matchmaker_9 : zPF "OthersHands$Matchmaker" 9 2 0 true (.array .int) := ⟨_, _, _, _, rfl, zi_Matchmaker, by decide, (zg_1 (List.mem_of_getElem? (i := 204) rfl) rfl), zo_Matchmaker, zn_Matchmaker, rfl, by decide +kernel, rfl⟩
theorem gf_Matchmaker_15 : zGF "OthersHands$Matchmaker" 15 2 1 := ⟨_, _, _, rfl, zi_Matchmaker, by decide, (zg_1 (List.mem_of_getElem? (i := 205) rfl) rfl)⟩
theorem pf_Matchmaker_15 : zPF "OthersHands$Matchmaker" 15 2 1 true (.array .int) := ⟨_, _, _, _, rfl, zi_Matchmaker, by decide, (zg_1 (List.mem_of_getElem? (i := 205) rfl) rfl), zo_Matchmaker, zn_Matchmaker, rfl, by decide +kernel, rfl⟩
theorem gf_Matchmaker_18 : zGF "OthersHands$Matchmaker" 18 2 2 := ⟨_, _, _, rfl, zi_Matchmaker, by decide, (zg_1 (List.mem_of_getElem? (i := 206) rfl) rfl)⟩
theorem pf_Matchmaker_18 : zPF "OthersHands$Matchmaker" 18 2 2 true (.array .int) := ⟨_, _, _, _, rfl, zi_Matchmaker, by decide, (zg_1 (List.mem_of_getElem? (i := 206) rfl) rfl), zo_Matchmaker, zn_Matchmaker, rfl, by decide +kernel, rfl⟩
theorem gf_Matchmaker_27 : zGF "OthersHands$Matchmaker" 27 7 1 := ⟨_, _, _, rfl, zi_Town, by decide, (zg_1 (List.mem_of_getElem? (i := 113) rfl) rfl)⟩
theorem gf_Pad_9 : zGF "OthersHands$Pad" 9 3 0 := ⟨_, _, _, rfl, zi_Pad, by decide, (zg_1 (List.mem_of_getElem? (i := 29) rfl) rfl)⟩
theorem pf_Pad_9 : zPF "OthersHands$Pad" 9 3 0 true (.array .int) := ⟨_, _, _, _, rfl, zi_Pad, by decide, (zg_1 (List.mem_of_getElem? (i := 29) rfl) rfl), zo_Pad, zn_Pad, rfl, by decide +kernel, rfl⟩
theorem gf_Pad_15 : zGF "OthersHands$Pad" 15 3 1 := ⟨_, _, _, rfl, zi_Pad, by decide, (zg_1 (List.mem_of_getElem? (i := 31) rfl) rfl)⟩
theorem pf_Pad_15 : zPF "OthersHands$Pad" 15 3 1 false (.int) := ⟨_, _, _, _, rfl, zi_Pad, by decide, (zg_1 (List.mem_of_getElem? (i := 31) rfl) rfl), zo_Pad, zn_Pad, rfl, by decide +kernel, rfl⟩
theorem gf_Pages_9 : zGF "OthersHands$Pages" 9 4 0 := ⟨_, _, _, rfl, zi_Pages, by decide, (zg_1 (List.mem_of_getElem? (i := 52) rfl) rfl)⟩
theorem pf_Pages_9 : zPF "OthersHands$Pages" 9 4 0 true (.array .int) := ⟨_, _, _, _, rfl, zi_Pages, by decide, (zg_1 (List.mem_of_getElem? (i := 52) rfl) rfl), zo_Pages, zn_Pages, rfl, by decide +kernel, rfl⟩
theorem gf_Pages_15 : zGF "OthersHands$Pages" 15 4 1 := ⟨_, _, _, rfl, zi_Pages, by decide, (zg_1 (List.mem_of_getElem? (i := 57) rfl) rfl)⟩
theorem pf_Pages_15 : zPF "OthersHands$Pages" 15 4 1 true (.array .int) := ⟨_, _, _, _, rfl, zi_Pages, by decide, (zg_1 (List.mem_of_getElem? (i := 57) rfl) rfl), zo_Pages, zn_Pages, rfl, by decide +kernel, rfl⟩
theorem gf_Pages_18 : zGF "OthersHands$Pages" 18 4 2 := ⟨_, _, _, rfl, zi_Pages, by decide, (zg_1 (List.mem_of_getElem? (i := 61) rfl) rfl)⟩
theorem pf_Pages_18 : zPF "OthersHands$Pages" 18 4 2 true (.array .int) := ⟨_, _, _, _, rfl, zi_Pages, by decide, (zg_1 (List.mem_of_getElem? (i := 61) rfl) rfl), zo_Pages, zn_Pages, rfl, by decide +kernel, rfl⟩
theorem gf_Pages_21 : zGF "OthersHands$Pages" 21 4 3 := ⟨_, _, _, rfl, zi_Pages, by decide, (zg_1 (List.mem_of_getElem? (i := 65) rfl) rfl)⟩
theorem pf_Pages_21 : zPF "OthersHands$Pages" 21 4 3 true (.array .int) := ⟨_, _, _, _, rfl, zi_Pages, by decide, (zg_1 (List.mem_of_getElem? (i := 65) rfl) rfl), zo_Pages, zn_Pages, rfl, by decide +kernel, rfl⟩
theorem gf_Pages_24 : zGF "OthersHands$Pages" 24 4 4 := ⟨_, _, _, rfl, zi_Pages, by decide, (zg_1 (List.mem_of_getElem? (i := 68) rfl) rfl)⟩
theorem pf_Pages_24 : zPF "OthersHands$Pages" 24 4 4 true (.array .int) := ⟨_, _, _, _, rfl, zi_Pages, by decide, (zg_1 (List.mem_of_getElem? (i := 68) rfl) rfl), zo_Pages, zn_Pages, rfl, by decide +kernel, rfl⟩
theorem gf_Pages_33 : zGF "OthersHands$Pages" 33 4 5 := ⟨_, _, _, rfl, zi_Pages, by decide, (zg_1 (List.mem_of_getElem? (i := 73) rfl) rfl)⟩
theorem pf_Pages_33 : zPF "OthersHands$Pages" 33 4 5 false (.int) := ⟨_, _, _, _, rfl, zi_Pages, by decide, (zg_1 (List.mem_of_getElem? (i := 73) rfl) rfl), zo_Pages, zn_Pages, rfl, by decide +kernel, rfl⟩
theorem gf_Reader_12 : zGF "OthersHands$Reader" 12 5 0 := ⟨_, _, _, rfl, zi_Reader, by decide, (zg_1 (List.mem_of_getElem? (i := 90) rfl) rfl)⟩
theorem pf_Reader_12 : zPF "OthersHands$Reader" 12 5 0 true (.object "OthersHands$Pages") := ⟨_, _, _, _, rfl, zi_Reader, by decide, (zg_1 (List.mem_of_getElem? (i := 90) rfl) rfl), zo_Reader, zn_Reader, rfl, by decide +kernel, rfl⟩
theorem gf_Reader_18 : zGF "OthersHands$Reader" 18 4 5 := ⟨_, _, _, rfl, zi_Pages, by decide, (zg_1 (List.mem_of_getElem? (i := 72) rfl) rfl)⟩
theorem gf_Reader_26 : zGF "OthersHands$Reader" 26 5 1 := ⟨_, _, _, rfl, zi_Reader, by decide, (zg_1 (List.mem_of_getElem? (i := 92) rfl) rfl)⟩
theorem pf_Reader_26 : zPF "OthersHands$Reader" 26 5 1 false (.int) := ⟨_, _, _, _, rfl, zi_Reader, by decide, (zg_1 (List.mem_of_getElem? (i := 92) rfl) rfl), zo_Reader, zn_Reader, rfl, by decide +kernel, rfl⟩
theorem gf_Reader_29 : zGF "OthersHands$Reader" 29 5 2 := ⟨_, _, _, rfl, zi_Reader, by decide, (zg_1 (List.mem_of_getElem? (i := 93) rfl) rfl)⟩
theorem pf_Reader_29 : zPF "OthersHands$Reader" 29 5 2 false (.int) := ⟨_, _, _, _, rfl, zi_Reader, by decide, (zg_1 (List.mem_of_getElem? (i := 93) rfl) rfl), zo_Reader, zn_Reader, rfl, by decide +kernel, rfl⟩
theorem gf_Reader_32 : zGF "OthersHands$Reader" 32 3 1 := ⟨_, _, _, rfl, zi_Pad, by decide, (zg_1 (List.mem_of_getElem? (i := 32) rfl) rfl)⟩
theorem gf_Reader_35 : zGF "OthersHands$Reader" 35 3 0 := ⟨_, _, _, rfl, zi_Pad, by decide, (zg_1 (List.mem_of_getElem? (i := 30) rfl) rfl)⟩
theorem gf_Reader_62 : zGF "OthersHands$Reader" 62 4 1 := ⟨_, _, _, rfl, zi_Pages, by decide, (zg_1 (List.mem_of_getElem? (i := 59) rfl) rfl)⟩
theorem gf_Reader_65 : zGF "OthersHands$Reader" 65 4 2 := ⟨_, _, _, rfl, zi_Pages, by decide, (zg_1 (List.mem_of_getElem? (i := 63) rfl) rfl)⟩
theorem gf_Reader_68 : zGF "OthersHands$Reader" 68 4 3 := ⟨_, _, _, rfl, zi_Pages, by decide, (zg_1 (List.mem_of_getElem? (i := 66) rfl) rfl)⟩
theorem gf_Reader_71 : zGF "OthersHands$Reader" 71 4 0 := ⟨_, _, _, rfl, zi_Pages, by decide, (zg_1 (List.mem_of_getElem? (i := 56) rfl) rfl)⟩
theorem gf_Reader_83 : zGF "OthersHands$Reader" 83 4 4 := ⟨_, _, _, rfl, zi_Pages, by decide, (zg_1 (List.mem_of_getElem? (i := 71) rfl) rfl)⟩
theorem gf_Shares_9 : zGF "OthersHands$Shares" 9 6 0 := ⟨_, _, _, rfl, zi_Shares, by decide, (zg_1 (List.mem_of_getElem? (i := 157) rfl) rfl)⟩
theorem pf_Shares_9 : zPF "OthersHands$Shares" 9 6 0 true (.array .int) := ⟨_, _, _, _, rfl, zi_Shares, by decide, (zg_1 (List.mem_of_getElem? (i := 157) rfl) rfl), zo_Shares, zn_Shares, rfl, by decide +kernel, rfl⟩
theorem gf_Shares_15 : zGF "OthersHands$Shares" 15 4 1 := ⟨_, _, _, rfl, zi_Pages, by decide, (zg_1 (List.mem_of_getElem? (i := 58) rfl) rfl)⟩
theorem gf_Shares_20 : zGF "OthersHands$Shares" 20 4 2 := ⟨_, _, _, rfl, zi_Pages, by decide, (zg_1 (List.mem_of_getElem? (i := 62) rfl) rfl)⟩
theorem gf_Shares_27 : zGF "OthersHands$Shares" 27 4 0 := ⟨_, _, _, rfl, zi_Pages, by decide, (zg_1 (List.mem_of_getElem? (i := 53) rfl) rfl)⟩
theorem gf_Town_12 : zGF "OthersHands$Town" 12 7 0 := ⟨_, _, _, rfl, zi_Town, by decide, (zg_1 (List.mem_of_getElem? (i := 109) rfl) rfl)⟩
theorem pf_Town_12 : zPF "OthersHands$Town" 12 7 0 true (.object "OthersHands$Pages") := ⟨_, _, _, _, rfl, zi_Town, by decide, (zg_1 (List.mem_of_getElem? (i := 109) rfl) rfl), zo_Town, zn_Town, rfl, by decide +kernel, rfl⟩
theorem gf_Town_18 : zGF "OthersHands$Town" 18 7 1 := ⟨_, _, _, rfl, zi_Town, by decide, (zg_1 (List.mem_of_getElem? (i := 112) rfl) rfl)⟩
theorem pf_Town_18 : zPF "OthersHands$Town" 18 7 1 true (.array .int) := ⟨_, _, _, _, rfl, zi_Town, by decide, (zg_1 (List.mem_of_getElem? (i := 112) rfl) rfl), zo_Town, zn_Town, rfl, by decide +kernel, rfl⟩
theorem gf_Town_22 : zGF "OthersHands$Town" 22 7 2 := ⟨_, _, _, rfl, zi_Town, by decide, (zg_1 (List.mem_of_getElem? (i := 115) rfl) rfl)⟩
theorem pf_Town_22 : zPF "OthersHands$Town" 22 7 2 true (.array .int) := ⟨_, _, _, _, rfl, zi_Town, by decide, (zg_1 (List.mem_of_getElem? (i := 115) rfl) rfl), zo_Town, zn_Town, rfl, by decide +kernel, rfl⟩
theorem gf_Town_25 : zGF "OthersHands$Town" 25 7 3 := ⟨_, _, _, rfl, zi_Town, by decide, (zg_1 (List.mem_of_getElem? (i := 118) rfl) rfl)⟩
theorem pf_Town_25 : zPF "OthersHands$Town" 25 7 3 true (.array .int) := ⟨_, _, _, _, rfl, zi_Town, by decide, (zg_1 (List.mem_of_getElem? (i := 118) rfl) rfl), zo_Town, zn_Town, rfl, by decide +kernel, rfl⟩
theorem gf_Town_28 : zGF "OthersHands$Town" 28 7 4 := ⟨_, _, _, rfl, zi_Town, by decide, (zg_1 (List.mem_of_getElem? (i := 120) rfl) rfl)⟩
theorem pf_Town_28 : zPF "OthersHands$Town" 28 7 4 true (.array .int) := ⟨_, _, _, _, rfl, zi_Town, by decide, (zg_1 (List.mem_of_getElem? (i := 120) rfl) rfl), zo_Town, zn_Town, rfl, by decide +kernel, rfl⟩
theorem gf_Town_31 : zGF "OthersHands$Town" 31 7 6 := ⟨_, _, _, rfl, zi_Town, by decide, (zg_1 (List.mem_of_getElem? (i := 125) rfl) rfl)⟩
theorem pf_Town_31 : zPF "OthersHands$Town" 31 7 6 false (.int) := ⟨_, _, _, _, rfl, zi_Town, by decide, (zg_1 (List.mem_of_getElem? (i := 125) rfl) rfl), zo_Town, zn_Town, rfl, by decide +kernel, rfl⟩
theorem gf_Town_35 : zGF "OthersHands$Town" 35 7 8 := ⟨_, _, _, rfl, zi_Town, by decide, (zg_1 (List.mem_of_getElem? (i := 129) rfl) rfl)⟩
theorem pf_Town_35 : zPF "OthersHands$Town" 35 7 8 false (.int) := ⟨_, _, _, _, rfl, zi_Town, by decide, (zg_1 (List.mem_of_getElem? (i := 129) rfl) rfl), zo_Town, zn_Town, rfl, by decide +kernel, rfl⟩
theorem gf_Town_48 : zGF "OthersHands$Town" 48 7 5 := ⟨_, _, _, rfl, zi_Town, by decide, (zg_1 (List.mem_of_getElem? (i := 123) rfl) rfl)⟩
theorem pf_Town_48 : zPF "OthersHands$Town" 48 7 5 false (.int) := ⟨_, _, _, _, rfl, zi_Town, by decide, (zg_1 (List.mem_of_getElem? (i := 123) rfl) rfl), zo_Town, zn_Town, rfl, by decide +kernel, rfl⟩
theorem gf_Town_51 : zGF "OthersHands$Town" 51 7 7 := ⟨_, _, _, rfl, zi_Town, by decide, (zg_1 (List.mem_of_getElem? (i := 127) rfl) rfl)⟩
theorem pf_Town_51 : zPF "OthersHands$Town" 51 7 7 false (.int) := ⟨_, _, _, _, rfl, zi_Town, by decide, (zg_1 (List.mem_of_getElem? (i := 127) rfl) rfl), zo_Town, zn_Town, rfl, by decide +kernel, rfl⟩
theorem gf_Town_78 : zGF "OthersHands$Town" 78 4 5 := ⟨_, _, _, rfl, zi_Pages, by decide, (zg_1 (List.mem_of_getElem? (i := 76) rfl) rfl)⟩
theorem gf_X_7 : zGF "OthersHandsModel" 7 9 0 := ⟨_, _, _, rfl, zi_X, by decide, (zg_3 (List.mem_of_getElem? (i := 160) rfl) rfl)⟩
theorem pf_X_7 : zPF "OthersHandsModel" 7 9 0 false (.int) := ⟨_, _, _, _, rfl, zi_X, by decide, (zg_3 (List.mem_of_getElem? (i := 160) rfl) rfl), zo_X, zn_X, rfl, by decide +kernel, rfl⟩
theorem gf_X_13 : zGF "OthersHandsModel" 13 9 2 := ⟨_, _, _, rfl, zi_X, by decide, (zg_3 (List.mem_of_getElem? (i := 162) rfl) rfl)⟩
theorem pf_X_13 : zPF "OthersHandsModel" 13 9 2 false (.int) := ⟨_, _, _, _, rfl, zi_X, by decide, (zg_3 (List.mem_of_getElem? (i := 162) rfl) rfl), zo_X, zn_X, rfl, by decide +kernel, rfl⟩
theorem gf_X_16 : zGF "OthersHandsModel" 16 9 3 := ⟨_, _, _, rfl, zi_X, by decide, (zg_3 (List.mem_of_getElem? (i := 163) rfl) rfl)⟩
theorem pf_X_16 : zPF "OthersHandsModel" 16 9 3 true (.array .int) := ⟨_, _, _, _, rfl, zi_X, by decide, (zg_3 (List.mem_of_getElem? (i := 163) rfl) rfl), zo_X, zn_X, rfl, by decide +kernel, rfl⟩
theorem gf_X_20 : zGF "OthersHandsModel" 20 9 5 := ⟨_, _, _, rfl, zi_X, by decide, (zg_3 (List.mem_of_getElem? (i := 165) rfl) rfl)⟩
theorem pf_X_20 : zPF "OthersHandsModel" 20 9 5 true (.array .int) := ⟨_, _, _, _, rfl, zi_X, by decide, (zg_3 (List.mem_of_getElem? (i := 165) rfl) rfl), zo_X, zn_X, rfl, by decide +kernel, rfl⟩
theorem gf_X_23 : zGF "OthersHandsModel" 23 9 7 := ⟨_, _, _, rfl, zi_X, by decide, (zg_3 (List.mem_of_getElem? (i := 167) rfl) rfl)⟩
theorem pf_X_23 : zPF "OthersHandsModel" 23 9 7 true (.array .int) := ⟨_, _, _, _, rfl, zi_X, by decide, (zg_3 (List.mem_of_getElem? (i := 167) rfl) rfl), zo_X, zn_X, rfl, by decide +kernel, rfl⟩
theorem gf_X_26 : zGF "OthersHandsModel" 26 9 8 := ⟨_, _, _, rfl, zi_X, by decide, (zg_3 (List.mem_of_getElem? (i := 168) rfl) rfl)⟩
theorem pf_X_26 : zPF "OthersHandsModel" 26 9 8 true (.array .int) := ⟨_, _, _, _, rfl, zi_X, by decide, (zg_3 (List.mem_of_getElem? (i := 168) rfl) rfl), zo_X, zn_X, rfl, by decide +kernel, rfl⟩
theorem gf_X_29 : zGF "OthersHandsModel" 29 9 10 := ⟨_, _, _, rfl, zi_X, by decide, (zg_3 (List.mem_of_getElem? (i := 170) rfl) rfl)⟩
theorem pf_X_29 : zPF "OthersHandsModel" 29 9 10 true (.array .int) := ⟨_, _, _, _, rfl, zi_X, by decide, (zg_3 (List.mem_of_getElem? (i := 170) rfl) rfl), zo_X, zn_X, rfl, by decide +kernel, rfl⟩
theorem gf_X_32 : zGF "OthersHandsModel" 32 9 11 := ⟨_, _, _, rfl, zi_X, by decide, (zg_3 (List.mem_of_getElem? (i := 171) rfl) rfl)⟩
theorem pf_X_32 : zPF "OthersHandsModel" 32 9 11 true (.array .int) := ⟨_, _, _, _, rfl, zi_X, by decide, (zg_3 (List.mem_of_getElem? (i := 171) rfl) rfl), zo_X, zn_X, rfl, by decide +kernel, rfl⟩
theorem gf_X_35 : zGF "OthersHandsModel" 35 9 12 := ⟨_, _, _, rfl, zi_X, by decide, (zg_3 (List.mem_of_getElem? (i := 172) rfl) rfl)⟩
theorem pf_X_35 : zPF "OthersHandsModel" 35 9 12 true (.array .int) := ⟨_, _, _, _, rfl, zi_X, by decide, (zg_3 (List.mem_of_getElem? (i := 172) rfl) rfl), zo_X, zn_X, rfl, by decide +kernel, rfl⟩
theorem gf_X_38 : zGF "OthersHandsModel" 38 9 13 := ⟨_, _, _, rfl, zi_X, by decide, (zg_3 (List.mem_of_getElem? (i := 173) rfl) rfl)⟩
theorem pf_X_38 : zPF "OthersHandsModel" 38 9 13 true (.array .int) := ⟨_, _, _, _, rfl, zi_X, by decide, (zg_3 (List.mem_of_getElem? (i := 173) rfl) rfl), zo_X, zn_X, rfl, by decide +kernel, rfl⟩
theorem gf_X_41 : zGF "OthersHandsModel" 41 9 14 := ⟨_, _, _, rfl, zi_X, by decide, (zg_3 (List.mem_of_getElem? (i := 174) rfl) rfl)⟩
theorem pf_X_41 : zPF "OthersHandsModel" 41 9 14 true (.array .int) := ⟨_, _, _, _, rfl, zi_X, by decide, (zg_3 (List.mem_of_getElem? (i := 174) rfl) rfl), zo_X, zn_X, rfl, by decide +kernel, rfl⟩
theorem gf_X_44 : zGF "OthersHandsModel" 44 9 15 := ⟨_, _, _, rfl, zi_X, by decide, (zg_3 (List.mem_of_getElem? (i := 175) rfl) rfl)⟩
theorem pf_X_44 : zPF "OthersHandsModel" 44 9 15 true (.array .int) := ⟨_, _, _, _, rfl, zi_X, by decide, (zg_3 (List.mem_of_getElem? (i := 175) rfl) rfl), zo_X, zn_X, rfl, by decide +kernel, rfl⟩
theorem gf_X_47 : zGF "OthersHandsModel" 47 9 16 := ⟨_, _, _, rfl, zi_X, by decide, (zg_3 (List.mem_of_getElem? (i := 176) rfl) rfl)⟩
theorem pf_X_47 : zPF "OthersHandsModel" 47 9 16 true (.array .int) := ⟨_, _, _, _, rfl, zi_X, by decide, (zg_3 (List.mem_of_getElem? (i := 176) rfl) rfl), zo_X, zn_X, rfl, by decide +kernel, rfl⟩
theorem gf_X_50 : zGF "OthersHandsModel" 50 9 17 := ⟨_, _, _, rfl, zi_X, by decide, (zg_3 (List.mem_of_getElem? (i := 177) rfl) rfl)⟩
theorem pf_X_50 : zPF "OthersHandsModel" 50 9 17 true (.array .int) := ⟨_, _, _, _, rfl, zi_X, by decide, (zg_3 (List.mem_of_getElem? (i := 177) rfl) rfl), zo_X, zn_X, rfl, by decide +kernel, rfl⟩
theorem gf_X_53 : zGF "OthersHandsModel" 53 9 18 := ⟨_, _, _, rfl, zi_X, by decide, (zg_3 (List.mem_of_getElem? (i := 178) rfl) rfl)⟩
theorem pf_X_53 : zPF "OthersHandsModel" 53 9 18 true (.array .int) := ⟨_, _, _, _, rfl, zi_X, by decide, (zg_3 (List.mem_of_getElem? (i := 178) rfl) rfl), zo_X, zn_X, rfl, by decide +kernel, rfl⟩
theorem gf_X_56 : zGF "OthersHandsModel" 56 9 19 := ⟨_, _, _, rfl, zi_X, by decide, (zg_3 (List.mem_of_getElem? (i := 179) rfl) rfl)⟩
theorem pf_X_56 : zPF "OthersHandsModel" 56 9 19 true (.array .int) := ⟨_, _, _, _, rfl, zi_X, by decide, (zg_3 (List.mem_of_getElem? (i := 179) rfl) rfl), zo_X, zn_X, rfl, by decide +kernel, rfl⟩
theorem gf_X_59 : zGF "OthersHandsModel" 59 9 20 := ⟨_, _, _, rfl, zi_X, by decide, (zg_3 (List.mem_of_getElem? (i := 180) rfl) rfl)⟩
theorem pf_X_59 : zPF "OthersHandsModel" 59 9 20 true (.array .int) := ⟨_, _, _, _, rfl, zi_X, by decide, (zg_3 (List.mem_of_getElem? (i := 180) rfl) rfl), zo_X, zn_X, rfl, by decide +kernel, rfl⟩
theorem gf_X_62 : zGF "OthersHandsModel" 62 9 21 := ⟨_, _, _, rfl, zi_X, by decide, (zg_3 (List.mem_of_getElem? (i := 181) rfl) rfl)⟩
theorem pf_X_62 : zPF "OthersHandsModel" 62 9 21 true (.array .boolean) := ⟨_, _, _, _, rfl, zi_X, by decide, (zg_3 (List.mem_of_getElem? (i := 181) rfl) rfl), zo_X, zn_X, rfl, by decide +kernel, rfl⟩
theorem gf_X_70 : zGF "OthersHandsModel" 70 9 6 := ⟨_, _, _, rfl, zi_X, by decide, (zg_3 (List.mem_of_getElem? (i := 166) rfl) rfl)⟩
theorem pf_X_70 : zPF "OthersHandsModel" 70 9 6 false (.int) := ⟨_, _, _, _, rfl, zi_X, by decide, (zg_3 (List.mem_of_getElem? (i := 166) rfl) rfl), zo_X, zn_X, rfl, by decide +kernel, rfl⟩
theorem gf_X_73 : zGF "OthersHandsModel" 73 9 4 := ⟨_, _, _, rfl, zi_X, by decide, (zg_3 (List.mem_of_getElem? (i := 164) rfl) rfl)⟩
theorem pf_X_73 : zPF "OthersHandsModel" 73 9 4 false (.int) := ⟨_, _, _, _, rfl, zi_X, by decide, (zg_3 (List.mem_of_getElem? (i := 164) rfl) rfl), zo_X, zn_X, rfl, by decide +kernel, rfl⟩
theorem gf_X_80 : zGF "OthersHandsModel" 80 9 9 := ⟨_, _, _, rfl, zi_X, by decide, (zg_3 (List.mem_of_getElem? (i := 169) rfl) rfl)⟩
theorem pf_X_80 : zPF "OthersHandsModel" 80 9 9 false (.int) := ⟨_, _, _, _, rfl, zi_X, by decide, (zg_3 (List.mem_of_getElem? (i := 169) rfl) rfl), zo_X, zn_X, rfl, by decide +kernel, rfl⟩
theorem gf_X_90 : zGF "OthersHandsModel" 90 9 1 := ⟨_, _, _, rfl, zi_X, by decide, (zg_3 (List.mem_of_getElem? (i := 161) rfl) rfl)⟩
theorem pf_X_90 : zPF "OthersHandsModel" 90 9 1 false (.int) := ⟨_, _, _, _, rfl, zi_X, by decide, (zg_3 (List.mem_of_getElem? (i := 161) rfl) rfl), zo_X, zn_X, rfl, by decide +kernel, rfl⟩
theorem lk_O_11 : zLIN "OthersHands" "OthersHands" 11 m_Pad_init 0 := ⟨cd_Pad_init, by decide +kernel, (zgn_1 (List.mem_of_getElem? (i := 25) rfl) rfl), (zg_1 (List.mem_of_getElem? (i := 26) rfl) rfl), rfl, rfl⟩
theorem lk_O_18 : zLIN "OthersHands" "OthersHands" 18 m_Reader_init 0 := ⟨cd_Reader_init, by decide +kernel, (zgn_1 (List.mem_of_getElem? (i := 42) rfl) rfl), (zg_1 (List.mem_of_getElem? (i := 43) rfl) rfl), rfl, rfl⟩
theorem lk_O_25 : zLI "OthersHands" 25 m_Town_init 0 := ⟨cd_Town_init, by decide +kernel, (zg_1 (List.mem_of_getElem? (i := 103) rfl) rfl), (zg_1 (List.mem_of_getElem? (i := 104) rfl) rfl), rfl, rfl⟩
theorem lk_O_36 : zLIN "OthersHands" "OthersHands" 36 m_Shares_init 0 := ⟨cd_Shares_init, by decide +kernel, (zgn_1 (List.mem_of_getElem? (i := 153) rfl) rfl), (zg_1 (List.mem_of_getElem? (i := 154) rfl) rfl), rfl, rfl⟩
theorem lk_O_43 : zLIN "OthersHands" "OthersHands" 43 m_Filling_init 0 := ⟨cd_Filling_init, by decide +kernel, (zgn_1 (List.mem_of_getElem? (i := 163) rfl) rfl), (zg_1 (List.mem_of_getElem? (i := 164) rfl) rfl), rfl, rfl⟩
theorem lk_O_50 : zLIN "OthersHands" "OthersHands" 50 m_Bread_init 0 := ⟨cd_Bread_init, by decide +kernel, (zgn_1 (List.mem_of_getElem? (i := 182) rfl) rfl), (zg_1 (List.mem_of_getElem? (i := 183) rfl) rfl), rfl, rfl⟩
theorem lk_O_57 : zLIN "OthersHands" "OthersHands" 57 m_Matchmaker_init 0 := ⟨cd_Matchmaker_init, by decide +kernel, (zgn_1 (List.mem_of_getElem? (i := 200) rfl) rfl), (zg_1 (List.mem_of_getElem? (i := 201) rfl) rfl), rfl, rfl⟩
theorem lk_O_62 : zLV "OthersHands" 62 m_Pad_put 1 := ⟨cd_Pad_put, by decide +kernel, (zg_2 (List.mem_of_getElem? (i := 4) rfl) rfl), (zg_2 (List.mem_of_getElem? (i := 5) rfl) rfl), (zg_2 (List.mem_of_getElem? (i := 6) rfl) rfl)⟩
theorem lk_O_66 : zLV "OthersHands" 66 m_Pad_clear 0 := ⟨cd_Pad_clear, by decide +kernel, (zg_2 (List.mem_of_getElem? (i := 12) rfl) rfl), (zg_2 (List.mem_of_getElem? (i := 13) rfl) rfl), (zg_2 (List.mem_of_getElem? (i := 14) rfl) rfl)⟩
theorem lk_O_70 : zLV "OthersHands" 70 m_Reader_read 1 := ⟨cd_Reader_read, by decide +kernel, (zg_2 (List.mem_of_getElem? (i := 20) rfl) rfl), (zg_2 (List.mem_of_getElem? (i := 21) rfl) rfl), (zg_2 (List.mem_of_getElem? (i := 22) rfl) rfl)⟩
theorem lk_O_78 : zLV "OthersHands" 78 m_Town_open 1 := ⟨cd_Town_open, by decide +kernel, (zg_2 (List.mem_of_getElem? (i := 70) rfl) rfl), (zg_2 (List.mem_of_getElem? (i := 71) rfl) rfl), (zg_2 (List.mem_of_getElem? (i := 72) rfl) rfl)⟩
theorem lk_O_91 : zLV "OthersHands" 91 m_O_isThing 1 := ⟨cd_O_isThing, by decide +kernel, (zg_2 (List.mem_of_getElem? (i := 85) rfl) rfl), (zg_2 (List.mem_of_getElem? (i := 87) rfl) rfl), (zg_s (List.mem_of_getElem? (i := 8) rfl) rfl)⟩
theorem lk_O_111 : zLS "OthersHands" 111 m_O_isMan 1 := ⟨cd_O_isMan, by decide +kernel, (zg_2 (List.mem_of_getElem? (i := 93) rfl) rfl), (zg_2 (List.mem_of_getElem? (i := 94) rfl) rfl)⟩
theorem lk_O_117 : zLS "OthersHands" 117 m_Town_mostOf 1 := ⟨cd_Town_mostOf, by decide +kernel, (zg_2 (List.mem_of_getElem? (i := 104) rfl) rfl), (zg_2 (List.mem_of_getElem? (i := 105) rfl) rfl)⟩
theorem lk_O_120 : zLV "OthersHands" 120 m_Town_change 2 := ⟨cd_Town_change, by decide +kernel, (zg_2 (List.mem_of_getElem? (i := 107) rfl) rfl), (zg_2 (List.mem_of_getElem? (i := 108) rfl) rfl), (zg_2 (List.mem_of_getElem? (i := 109) rfl) rfl)⟩
theorem lk_O_127 : zLV "OthersHands" 127 m_Town_touchers 1 := ⟨cd_Town_touchers, by decide +kernel, (zg_2 (List.mem_of_getElem? (i := 119) rfl) rfl), (zg_2 (List.mem_of_getElem? (i := 120) rfl) rfl), (zg_2 (List.mem_of_getElem? (i := 121) rfl) rfl)⟩
theorem lk_O_130 : zLV "OthersHands" 130 m_Town_barredMen 1 := ⟨cd_Town_barredMen, by decide +kernel, (zg_2 (List.mem_of_getElem? (i := 141) rfl) rfl), (zg_2 (List.mem_of_getElem? (i := 142) rfl) rfl), (zg_2 (List.mem_of_getElem? (i := 143) rfl) rfl)⟩
theorem lk_O_136 : zLV "OthersHands" 136 m_Shares_holders 3 := ⟨cd_Shares_holders, by decide +kernel, (zg_2 (List.mem_of_getElem? (i := 155) rfl) rfl), (zg_2 (List.mem_of_getElem? (i := 156) rfl) rfl), (zg_2 (List.mem_of_getElem? (i := 157) rfl) rfl)⟩
theorem lk_O_140 : zLV "OthersHands" 140 m_Town_withPartners 1 := ⟨cd_Town_withPartners, by decide +kernel, (zg_2 (List.mem_of_getElem? (i := 171) rfl) rfl), (zg_2 (List.mem_of_getElem? (i := 147) rfl) rfl), (zg_2 (List.mem_of_getElem? (i := 148) rfl) rfl)⟩
theorem lk_O_143 : zLV "OthersHands" 143 m_Town_lawfulThings 1 := ⟨cd_Town_lawfulThings, by decide +kernel, (zg_2 (List.mem_of_getElem? (i := 176) rfl) rfl), (zg_2 (List.mem_of_getElem? (i := 177) rfl) rfl), (zg_2 (List.mem_of_getElem? (i := 178) rfl) rfl)⟩
theorem lk_O_146 : zLV "OthersHands" 146 m_Town_taintOf 1 := ⟨cd_Town_taintOf, by decide +kernel, (zg_2 (List.mem_of_getElem? (i := 180) rfl) rfl), (zg_2 (List.mem_of_getElem? (i := 181) rfl) rfl), (zg_2 (List.mem_of_getElem? (i := 182) rfl) rfl)⟩
theorem lk_O_149 : zLV "OthersHands" 149 m_Town_fewestSteps 2 := ⟨cd_Town_fewestSteps, by decide +kernel, (zg_2 (List.mem_of_getElem? (i := 188) rfl) rfl), (zg_2 (List.mem_of_getElem? (i := 189) rfl) rfl), (zg_2 (List.mem_of_getElem? (i := 190) rfl) rfl)⟩
theorem lk_O_156 : zLV "OthersHands" 156 m_Shares_partsOf 3 := ⟨cd_Shares_partsOf, by decide +kernel, (zg_2 (List.mem_of_getElem? (i := 198) rfl) rfl), (zg_2 (List.mem_of_getElem? (i := 160) rfl) rfl), (zg_2 (List.mem_of_getElem? (i := 161) rfl) rfl)⟩
theorem lk_O_159 : zLS "OthersHands" 159 m_Shares_lowest 3 := ⟨cd_Shares_lowest, by decide +kernel, (zg_2 (List.mem_of_getElem? (i := 199) rfl) rfl), (zg_2 (List.mem_of_getElem? (i := 200) rfl) rfl)⟩
theorem lk_O_163 : zLV "OthersHands" 163 m_Town_addSight 2 := ⟨cd_Town_addSight, by decide +kernel, (zg_2 (List.mem_of_getElem? (i := 206) rfl) rfl), (zg_2 (List.mem_of_getElem? (i := 207) rfl) rfl), (zg_2 (List.mem_of_getElem? (i := 208) rfl) rfl)⟩
theorem lk_O_166 : zLV "OthersHands" 166 m_Town_dropSights 0 := ⟨cd_Town_dropSights, by decide +kernel, (zg_2 (List.mem_of_getElem? (i := 214) rfl) rfl), (zg_2 (List.mem_of_getElem? (i := 215) rfl) rfl), (zg_2 (List.mem_of_getElem? (i := 216) rfl) rfl)⟩
theorem lk_O_169 : zLV "OthersHands" 169 m_Filling_weigh 1 := ⟨cd_Filling_weigh, by decide +kernel, (zg_2 (List.mem_of_getElem? (i := 222) rfl) rfl), (zg_2 (List.mem_of_getElem? (i := 223) rfl) rfl), (zg_2 (List.mem_of_getElem? (i := 224) rfl) rfl)⟩
theorem lk_O_173 : zLV "OthersHands" 173 m_Filling_ways 0 := ⟨cd_Filling_ways, by decide +kernel, (zg_2 (List.mem_of_getElem? (i := 238) rfl) rfl), (zg_2 (List.mem_of_getElem? (i := 239) rfl) rfl), (zg_3 (List.mem_of_getElem? (i := 0) rfl) rfl)⟩
theorem lk_O_176 : zLV "OthersHands" 176 m_Filling_firstMan 1 := ⟨cd_Filling_firstMan, by decide +kernel, (zg_3 (List.mem_of_getElem? (i := 3) rfl) rfl), (zg_3 (List.mem_of_getElem? (i := 4) rfl) rfl), (zg_3 (List.mem_of_getElem? (i := 5) rfl) rfl)⟩
theorem lk_O_179 : zLV "OthersHands" 179 m_Filling_barredInAll 2 := ⟨cd_Filling_barredInAll, by decide +kernel, (zg_3 (List.mem_of_getElem? (i := 16) rfl) rfl), (zg_3 (List.mem_of_getElem? (i := 17) rfl) rfl), (zg_3 (List.mem_of_getElem? (i := 18) rfl) rfl)⟩
theorem lk_O_183 : zLV "OthersHands" 183 m_Filling_barredInSome 2 := ⟨cd_Filling_barredInSome, by decide +kernel, (zg_3 (List.mem_of_getElem? (i := 24) rfl) rfl), (zg_3 (List.mem_of_getElem? (i := 25) rfl) rfl), (zg_3 (List.mem_of_getElem? (i := 26) rfl) rfl)⟩
theorem lk_O_186 : zLV "OthersHands" 186 m_Bread_layOut 1 := ⟨cd_Bread_layOut, by decide +kernel, (zg_3 (List.mem_of_getElem? (i := 33) rfl) rfl), (zg_3 (List.mem_of_getElem? (i := 34) rfl) rfl), (zg_3 (List.mem_of_getElem? (i := 35) rfl) rfl)⟩
theorem lk_O_189 : zLV "OthersHands" 189 m_Bread_serve 0 := ⟨cd_Bread_serve, by decide +kernel, (zg_3 (List.mem_of_getElem? (i := 39) rfl) rfl), (zg_3 (List.mem_of_getElem? (i := 40) rfl) rfl), (zg_3 (List.mem_of_getElem? (i := 41) rfl) rfl)⟩
theorem lk_O_195 : zLV "OthersHands" 195 m_Bread_leastShortSet 0 := ⟨cd_Bread_leastShortSet, by decide +kernel, (zg_3 (List.mem_of_getElem? (i := 64) rfl) rfl), (zg_3 (List.mem_of_getElem? (i := 65) rfl) rfl), (zg_3 (List.mem_of_getElem? (i := 66) rfl) rfl)⟩
theorem lk_O_198 : zLS "OthersHands" 198 m_Bakers_fewest 2 := ⟨cd_Bakers_fewest, by decide +kernel, (zg_3 (List.mem_of_getElem? (i := 72) rfl) rfl), (zg_3 (List.mem_of_getElem? (i := 73) rfl) rfl)⟩
theorem lk_O_203 : zLS "OthersHands" 203 m_JI_bitCount 1 := ⟨cd_JI_bitCount, by decide +kernel, (zg_3 (List.mem_of_getElem? (i := 84) rfl) rfl), (zg_2 (List.mem_of_getElem? (i := 49) rfl) rfl)⟩
theorem lk_O_208 : zLV "OthersHands" 208 m_Town_couple 1 := ⟨cd_Town_couple, by decide +kernel, (zg_3 (List.mem_of_getElem? (i := 89) rfl) rfl), (zg_2 (List.mem_of_getElem? (i := 152) rfl) rfl), (zg_2 (List.mem_of_getElem? (i := 153) rfl) rfl)⟩
theorem lk_O_214 : zLS "OthersHands" 214 m_JM_max 2 := ⟨cd_JM_max, by decide +kernel, (zg_3 (List.mem_of_getElem? (i := 90) rfl) rfl), (zg_3 (List.mem_of_getElem? (i := 54) rfl) rfl)⟩
theorem lk_O_219 : zLV "OthersHands" 219 m_Matchmaker_arrange 1 := ⟨cd_Matchmaker_arrange, by decide +kernel, (zg_3 (List.mem_of_getElem? (i := 95) rfl) rfl), (zg_3 (List.mem_of_getElem? (i := 96) rfl) rfl), (zg_3 (List.mem_of_getElem? (i := 97) rfl) rfl)⟩
theorem lk_O_226 : zLV "OthersHands" 226 m_Bread_live 2 := ⟨cd_Bread_live, by decide +kernel, (zg_3 (List.mem_of_getElem? (i := 128) rfl) rfl), (zg_3 (List.mem_of_getElem? (i := 129) rfl) rfl), (zg_3 (List.mem_of_getElem? (i := 130) rfl) rfl)⟩
theorem lk_O_232 : zLV "OthersHands" 232 m_Town_become 1 := ⟨cd_Town_become, by decide +kernel, (zg_3 (List.mem_of_getElem? (i := 141) rfl) rfl), (zg_3 (List.mem_of_getElem? (i := 142) rfl) rfl), (zg_3 (List.mem_of_getElem? (i := 143) rfl) rfl)⟩
theorem lk_O_242 : zLS "OthersHands" 242 m_O_has 2 := ⟨cd_O_has, by decide +kernel, (zg_3 (List.mem_of_getElem? (i := 11) rfl) rfl), (zg_2 (List.mem_of_getElem? (i := 132) rfl) rfl)⟩
theorem lk_Bakers_9 : zLS "OthersHands$Bakers" 9 m_JI_bitCount 1 := ⟨cd_JI_bitCount, by decide +kernel, (zg_3 (List.mem_of_getElem? (i := 75) rfl) rfl), (zg_2 (List.mem_of_getElem? (i := 49) rfl) rfl)⟩
theorem lk_Bakers_15 : zLS "OthersHands$Bakers" 15 m_Bakers_feedAll 3 := ⟨cd_Bakers_feedAll, by decide +kernel, (zg_3 (List.mem_of_getElem? (i := 76) rfl) rfl), (zg_3 (List.mem_of_getElem? (i := 77) rfl) rfl)⟩
theorem lk_Bakers_21 : zLS "OthersHands$Bakers" 21 m_Bakers_barredForEach 2 := ⟨cd_Bakers_barredForEach, by decide +kernel, (zg_3 (List.mem_of_getElem? (i := 79) rfl) rfl), (zg_3 (List.mem_of_getElem? (i := 80) rfl) rfl)⟩
theorem lk_Bakers_25 : zLSN "OthersHands$Bakers" "OthersHands" 25 m_O_has 2 := ⟨cd_O_has, by decide +kernel, (zgn_3 (List.mem_of_getElem? (i := 82) rfl) rfl), (zg_2 (List.mem_of_getElem? (i := 132) rfl) rfl)⟩
theorem lk_Bakers_29 : zLV "OthersHands$Bakers" 29 m_Town_couple 1 := ⟨cd_Town_couple, by decide +kernel, (zg_3 (List.mem_of_getElem? (i := 83) rfl) rfl), (zg_2 (List.mem_of_getElem? (i := 152) rfl) rfl), (zg_2 (List.mem_of_getElem? (i := 153) rfl) rfl)⟩
theorem lk_Bread_21 : zLV "OthersHands$Bread" 21 m_Town_lawfulThings 1 := ⟨cd_Town_lawfulThings, by decide +kernel, (zg_3 (List.mem_of_getElem? (i := 37) rfl) rfl), (zg_2 (List.mem_of_getElem? (i := 177) rfl) rfl), (zg_2 (List.mem_of_getElem? (i := 178) rfl) rfl)⟩
theorem lk_Bread_36 : zLSN "OthersHands$Bread" "OthersHands" 36 m_O_has 2 := ⟨cd_O_has, by decide +kernel, (zgn_3 (List.mem_of_getElem? (i := 52) rfl) rfl), (zg_2 (List.mem_of_getElem? (i := 132) rfl) rfl)⟩
theorem lk_Bread_40 : zLS "OthersHands$Bread" 40 m_JI_bitCount 1 := ⟨cd_JI_bitCount, by decide +kernel, (zg_3 (List.mem_of_getElem? (i := 47) rfl) rfl), (zg_2 (List.mem_of_getElem? (i := 49) rfl) rfl)⟩
theorem lk_Bread_45 : zLV "OthersHands$Bread" 45 m_Bread_loavesFor 1 := ⟨cd_Bread_loavesFor, by decide +kernel, (zg_3 (List.mem_of_getElem? (i := 48) rfl) rfl), (zg_3 (List.mem_of_getElem? (i := 50) rfl) rfl), (zg_s (List.mem_of_getElem? (i := 13) rfl) rfl)⟩
theorem lk_Bread_48 : zLS "OthersHands$Bread" 48 m_JM_max 2 := ⟨cd_JM_max, by decide +kernel, (zg_3 (List.mem_of_getElem? (i := 53) rfl) rfl), (zg_3 (List.mem_of_getElem? (i := 54) rfl) rfl)⟩
theorem lk_Bread_54 : zLV "OthersHands$Bread" 54 m_Bread_mostFed 1 := ⟨cd_Bread_mostFed, by decide +kernel, (zg_3 (List.mem_of_getElem? (i := 43) rfl) rfl), (zg_3 (List.mem_of_getElem? (i := 45) rfl) rfl), (zg_s (List.mem_of_getElem? (i := 12) rfl) rfl)⟩
theorem lk_Bread_57 : zLV "OthersHands$Bread" 57 m_Bread_takeLeastMeal 2 := ⟨cd_Bread_takeLeastMeal, by decide +kernel, (zg_3 (List.mem_of_getElem? (i := 56) rfl) rfl), (zg_3 (List.mem_of_getElem? (i := 58) rfl) rfl), (zg_s (List.mem_of_getElem? (i := 14) rfl) rfl)⟩
theorem lk_Bread_61 : zLV "OthersHands$Bread" 61 m_Bread_eats 1 := ⟨cd_Bread_eats, by decide +kernel, (zg_3 (List.mem_of_getElem? (i := 133) rfl) rfl), (zg_3 (List.mem_of_getElem? (i := 135) rfl) rfl), (zg_s (List.mem_of_getElem? (i := 20) rfl) rfl)⟩
theorem lk_Filling_24 : zLV "OthersHands$Filling" 24 m_Filling_findAsks 1 := ⟨cd_Filling_findAsks, by decide +kernel, (zg_2 (List.mem_of_getElem? (i := 226) rfl) rfl), (zg_2 (List.mem_of_getElem? (i := 228) rfl) rfl), (zg_s (List.mem_of_getElem? (i := 9) rfl) rfl)⟩
theorem lk_Filling_39 : zLV "OthersHands$Filling" 39 m_Town_reach 1 := ⟨cd_Town_reach, by decide +kernel, (zg_2 (List.mem_of_getElem? (i := 230) rfl) rfl), (zg_2 (List.mem_of_getElem? (i := 124) rfl) rfl), (zg_2 (List.mem_of_getElem? (i := 125) rfl) rfl)⟩
theorem lk_Filling_46 : zLV "OthersHands$Filling" 46 m_Town_couple 1 := ⟨cd_Town_couple, by decide +kernel, (zg_2 (List.mem_of_getElem? (i := 231) rfl) rfl), (zg_2 (List.mem_of_getElem? (i := 152) rfl) rfl), (zg_2 (List.mem_of_getElem? (i := 153) rfl) rfl)⟩
theorem lk_Filling_49 : zLV "OthersHands$Filling" 49 m_Filling_applySight 3 := ⟨cd_Filling_applySight, by decide +kernel, (zg_2 (List.mem_of_getElem? (i := 232) rfl) rfl), (zg_2 (List.mem_of_getElem? (i := 234) rfl) rfl), (zg_s (List.mem_of_getElem? (i := 10) rfl) rfl)⟩
theorem lk_Filling_67 : zLV "OthersHands$Filling" 67 m_Pages_handsOf 1 := ⟨cd_Pages_handsOf, by decide +kernel, (zg_2 (List.mem_of_getElem? (i := 236) rfl) rfl), (zg_2 (List.mem_of_getElem? (i := 138) rfl) rfl), (zg_2 (List.mem_of_getElem? (i := 139) rfl) rfl)⟩
theorem lk_Filling_70 : zLSN "OthersHands$Filling" "OthersHands" 70 m_O_has 2 := ⟨cd_O_has, by decide +kernel, (zgn_2 (List.mem_of_getElem? (i := 237) rfl) rfl), (zg_2 (List.mem_of_getElem? (i := 132) rfl) rfl)⟩
theorem lk_Filling_74 : zLS "OthersHands$Filling" 74 m_JI_bitCount 1 := ⟨cd_JI_bitCount, by decide +kernel, (zg_3 (List.mem_of_getElem? (i := 2) rfl) rfl), (zg_2 (List.mem_of_getElem? (i := 49) rfl) rfl)⟩
theorem lk_Filling_79 : zLV "OthersHands$Filling" 79 m_Filling_ways 0 := ⟨cd_Filling_ways, by decide +kernel, (zg_3 (List.mem_of_getElem? (i := 7) rfl) rfl), (zg_2 (List.mem_of_getElem? (i := 239) rfl) rfl), (zg_3 (List.mem_of_getElem? (i := 0) rfl) rfl)⟩
theorem lk_Filling_83 : zLSN "OthersHands$Filling" "OthersHands" 83 m_O_leastOf 1 := ⟨cd_O_leastOf, by decide +kernel, (zgn_3 (List.mem_of_getElem? (i := 8) rfl) rfl), (zg_3 (List.mem_of_getElem? (i := 9) rfl) rfl)⟩
theorem lk_Filling_86 : zLV "OthersHands$Filling" 86 m_Filling_isForced 2 := ⟨cd_Filling_isForced, by decide +kernel, (zg_3 (List.mem_of_getElem? (i := 20) rfl) rfl), (zg_3 (List.mem_of_getElem? (i := 22) rfl) rfl), (zg_s (List.mem_of_getElem? (i := 11) rfl) rfl)⟩
theorem lk_Filling_89 : zLV "OthersHands$Filling" 89 m_Town_withPartners 1 := ⟨cd_Town_withPartners, by decide +kernel, (zg_3 (List.mem_of_getElem? (i := 28) rfl) rfl), (zg_2 (List.mem_of_getElem? (i := 147) rfl) rfl), (zg_2 (List.mem_of_getElem? (i := 148) rfl) rfl)⟩
theorem lk_Matchmaker_21 : zLV "OthersHands$Matchmaker" 21 m_Town_taintOf 1 := ⟨cd_Town_taintOf, by decide +kernel, (zg_3 (List.mem_of_getElem? (i := 99) rfl) rfl), (zg_2 (List.mem_of_getElem? (i := 181) rfl) rfl), (zg_2 (List.mem_of_getElem? (i := 182) rfl) rfl)⟩
theorem lk_Matchmaker_30 : zLV "OthersHands$Matchmaker" 30 m_Matchmaker_sumUp 1 := ⟨cd_Matchmaker_sumUp, by decide +kernel, (zg_3 (List.mem_of_getElem? (i := 100) rfl) rfl), (zg_3 (List.mem_of_getElem? (i := 102) rfl) rfl), (zg_s (List.mem_of_getElem? (i := 15) rfl) rfl)⟩
theorem lk_Matchmaker_34 : zLV "OthersHands$Matchmaker" 34 m_Matchmaker_choose 1 := ⟨cd_Matchmaker_choose, by decide +kernel, (zg_3 (List.mem_of_getElem? (i := 120) rfl) rfl), (zg_3 (List.mem_of_getElem? (i := 122) rfl) rfl), (zg_s (List.mem_of_getElem? (i := 19) rfl) rfl)⟩
theorem lk_Matchmaker_37 : zLS "OthersHands$Matchmaker" 37 m_JI_bitCount 1 := ⟨cd_JI_bitCount, by decide +kernel, (zg_3 (List.mem_of_getElem? (i := 104) rfl) rfl), (zg_2 (List.mem_of_getElem? (i := 49) rfl) rfl)⟩
theorem lk_Matchmaker_42 : zLV "OthersHands$Matchmaker" 42 m_Matchmaker_leastSum 1 := ⟨cd_Matchmaker_leastSum, by decide +kernel, (zg_3 (List.mem_of_getElem? (i := 105) rfl) rfl), (zg_3 (List.mem_of_getElem? (i := 107) rfl) rfl), (zg_s (List.mem_of_getElem? (i := 16) rfl) rfl)⟩
theorem lk_Matchmaker_45 : zLSN "OthersHands$Matchmaker" "OthersHands" 45 m_O_leastOf 1 := ⟨cd_O_leastOf, by decide +kernel, (zgn_3 (List.mem_of_getElem? (i := 109) rfl) rfl), (zg_3 (List.mem_of_getElem? (i := 9) rfl) rfl)⟩
theorem lk_Matchmaker_48 : zLSN "OthersHands$Matchmaker" "OthersHands" 48 m_O_isMan 1 := ⟨cd_O_isMan, by decide +kernel, (zgn_3 (List.mem_of_getElem? (i := 110) rfl) rfl), (zg_2 (List.mem_of_getElem? (i := 94) rfl) rfl)⟩
theorem lk_Matchmaker_52 : zLV "OthersHands$Matchmaker" 52 m_Matchmaker_bestOther 2 := ⟨cd_Matchmaker_bestOther, by decide +kernel, (zg_3 (List.mem_of_getElem? (i := 111) rfl) rfl), (zg_3 (List.mem_of_getElem? (i := 113) rfl) rfl), (zg_s (List.mem_of_getElem? (i := 17) rfl) rfl)⟩
theorem lk_Matchmaker_56 : zLV "OthersHands$Matchmaker" 56 m_Matchmaker_sumWith 3 := ⟨cd_Matchmaker_sumWith, by decide +kernel, (zg_3 (List.mem_of_getElem? (i := 116) rfl) rfl), (zg_3 (List.mem_of_getElem? (i := 118) rfl) rfl), (zg_s (List.mem_of_getElem? (i := 18) rfl) rfl)⟩
theorem lk_Matchmaker_60 : zLSN "OthersHands$Matchmaker" "OthersHands" 60 m_O_has 2 := ⟨cd_O_has, by decide +kernel, (zgn_3 (List.mem_of_getElem? (i := 115) rfl) rfl), (zg_2 (List.mem_of_getElem? (i := 132) rfl) rfl)⟩
theorem lk_Pages_37 : zLSN "OthersHands$Pages" "OthersHands" 37 m_O_has 2 := ⟨cd_O_has, by decide +kernel, (zgn_2 (List.mem_of_getElem? (i := 131) rfl) rfl), (zg_2 (List.mem_of_getElem? (i := 132) rfl) rfl)⟩
theorem lk_Pages_41 : zLS "OthersHands$Pages" 41 m_Pages_bitOf 1 := ⟨cd_Pages_bitOf, by decide +kernel, (zg_2 (List.mem_of_getElem? (i := 134) rfl) rfl), (zg_2 (List.mem_of_getElem? (i := 135) rfl) rfl)⟩
theorem lk_Reader_11 : zLIN "OthersHands$Reader" "OthersHands" 11 m_Pages_init 0 := ⟨cd_Pages_init, by decide +kernel, (zgn_1 (List.mem_of_getElem? (i := 48) rfl) rfl), (zg_1 (List.mem_of_getElem? (i := 49) rfl) rfl), rfl, rfl⟩
theorem lk_Reader_22 : zLV "OthersHands$Reader" 22 m_Pages_clearMaking 1 := ⟨cd_Pages_clearMaking, by decide +kernel, (zg_2 (List.mem_of_getElem? (i := 24) rfl) rfl), (zg_2 (List.mem_of_getElem? (i := 25) rfl) rfl), (zg_2 (List.mem_of_getElem? (i := 26) rfl) rfl)⟩
theorem lk_Reader_39 : zLV "OthersHands$Reader" 39 m_Reader_takes 1 := ⟨cd_Reader_takes, by decide +kernel, (zg_2 (List.mem_of_getElem? (i := 28) rfl) rfl), (zg_2 (List.mem_of_getElem? (i := 30) rfl) rfl), (zg_s (List.mem_of_getElem? (i := 0) rfl) rfl)⟩
theorem lk_Reader_43 : zLV "OthersHands$Reader" 43 m_Reader_takesTool 2 := ⟨cd_Reader_takesTool, by decide +kernel, (zg_2 (List.mem_of_getElem? (i := 32) rfl) rfl), (zg_2 (List.mem_of_getElem? (i := 34) rfl) rfl), (zg_s (List.mem_of_getElem? (i := 1) rfl) rfl)⟩
theorem lk_Reader_47 : zLV "OthersHands$Reader" 47 m_Reader_takesFrom 2 := ⟨cd_Reader_takesFrom, by decide +kernel, (zg_2 (List.mem_of_getElem? (i := 36) rfl) rfl), (zg_2 (List.mem_of_getElem? (i := 38) rfl) rfl), (zg_s (List.mem_of_getElem? (i := 2) rfl) rfl)⟩
theorem lk_Reader_50 : zLV "OthersHands$Reader" 50 m_Reader_takesMan 2 := ⟨cd_Reader_takesMan, by decide +kernel, (zg_2 (List.mem_of_getElem? (i := 40) rfl) rfl), (zg_2 (List.mem_of_getElem? (i := 42) rfl) rfl), (zg_s (List.mem_of_getElem? (i := 3) rfl) rfl)⟩
theorem lk_Reader_53 : zLV "OthersHands$Reader" 53 m_Reader_takesPlus 1 := ⟨cd_Reader_takesPlus, by decide +kernel, (zg_2 (List.mem_of_getElem? (i := 54) rfl) rfl), (zg_2 (List.mem_of_getElem? (i := 56) rfl) rfl), (zg_s (List.mem_of_getElem? (i := 5) rfl) rfl)⟩
theorem lk_Reader_56 : zLV "OthersHands$Reader" 56 m_Reader_takesAsk 1 := ⟨cd_Reader_takesAsk, by decide +kernel, (zg_2 (List.mem_of_getElem? (i := 58) rfl) rfl), (zg_2 (List.mem_of_getElem? (i := 60) rfl) rfl), (zg_s (List.mem_of_getElem? (i := 6) rfl) rfl)⟩
theorem lk_Reader_59 : zLV "OthersHands$Reader" 59 m_Reader_takesEnd 1 := ⟨cd_Reader_takesEnd, by decide +kernel, (zg_2 (List.mem_of_getElem? (i := 62) rfl) rfl), (zg_2 (List.mem_of_getElem? (i := 64) rfl) rfl), (zg_s (List.mem_of_getElem? (i := 7) rfl) rfl)⟩
theorem lk_Reader_74 : zLS "OthersHands$Reader" 74 m_JI_bitCount 1 := ⟨cd_JI_bitCount, by decide +kernel, (zg_2 (List.mem_of_getElem? (i := 48) rfl) rfl), (zg_2 (List.mem_of_getElem? (i := 49) rfl) rfl)⟩
theorem lk_Reader_80 : zLV "OthersHands$Reader" 80 m_Reader_hasRoomForHand 1 := ⟨cd_Reader_hasRoomForHand, by decide +kernel, (zg_2 (List.mem_of_getElem? (i := 44) rfl) rfl), (zg_2 (List.mem_of_getElem? (i := 46) rfl) rfl), (zg_s (List.mem_of_getElem? (i := 4) rfl) rfl)⟩
theorem lk_Shares_23 : zLS "OthersHands$Shares" 23 m_Shares_isAhead 2 := ⟨cd_Shares_isAhead, by decide +kernel, (zg_2 (List.mem_of_getElem? (i := 163) rfl) rfl), (zg_2 (List.mem_of_getElem? (i := 164) rfl) rfl)⟩
theorem lk_Shares_30 : zLS "OthersHands$Shares" 30 m_Shares_partsOfHands 2 := ⟨cd_Shares_partsOfHands, by decide +kernel, (zg_2 (List.mem_of_getElem? (i := 166) rfl) rfl), (zg_2 (List.mem_of_getElem? (i := 167) rfl) rfl)⟩
theorem lk_Shares_34 : zLS "OthersHands$Shares" 34 m_JI_bitCount 1 := ⟨cd_JI_bitCount, by decide +kernel, (zg_2 (List.mem_of_getElem? (i := 169) rfl) rfl), (zg_2 (List.mem_of_getElem? (i := 49) rfl) rfl)⟩
theorem lk_Shares_40 : zLSN "OthersHands$Shares" "OthersHands" 40 m_O_has 2 := ⟨cd_O_has, by decide +kernel, (zgn_2 (List.mem_of_getElem? (i := 170) rfl) rfl), (zg_2 (List.mem_of_getElem? (i := 132) rfl) rfl)⟩
theorem lk_Shares_43 : zLV "OthersHands$Shares" 43 m_Shares_partsOf 3 := ⟨cd_Shares_partsOf, by decide +kernel, (zg_2 (List.mem_of_getElem? (i := 159) rfl) rfl), (zg_2 (List.mem_of_getElem? (i := 160) rfl) rfl), (zg_2 (List.mem_of_getElem? (i := 161) rfl) rfl)⟩
theorem lk_Town_11 : zLIN "OthersHands$Town" "OthersHands" 11 m_Pages_init 0 := ⟨cd_Pages_init, by decide +kernel, (zgn_1 (List.mem_of_getElem? (i := 108) rfl) rfl), (zg_1 (List.mem_of_getElem? (i := 49) rfl) rfl), rfl, rfl⟩
theorem lk_Town_38 : zLV "OthersHands$Town" 38 m_Pages_become 1 := ⟨cd_Pages_become, by decide +kernel, (zg_2 (List.mem_of_getElem? (i := 74) rfl) rfl), (zg_2 (List.mem_of_getElem? (i := 75) rfl) rfl), (zg_2 (List.mem_of_getElem? (i := 76) rfl) rfl)⟩
theorem lk_Town_54 : zLSN "OthersHands$Town" "OthersHands" 54 m_O_has 2 := ⟨cd_O_has, by decide +kernel, (zgn_2 (List.mem_of_getElem? (i := 150) rfl) rfl), (zg_2 (List.mem_of_getElem? (i := 132) rfl) rfl)⟩
theorem lk_Town_58 : zLV "OthersHands$Town" 58 m_Town_couple 1 := ⟨cd_Town_couple, by decide +kernel, (zg_2 (List.mem_of_getElem? (i := 151) rfl) rfl), (zg_2 (List.mem_of_getElem? (i := 152) rfl) rfl), (zg_2 (List.mem_of_getElem? (i := 153) rfl) rfl)⟩
theorem lk_Town_62 : zLV "OthersHands$Town" 62 m_Pages_behind 2 := ⟨cd_Pages_behind, by decide +kernel, (zg_2 (List.mem_of_getElem? (i := 127) rfl) rfl), (zg_2 (List.mem_of_getElem? (i := 128) rfl) rfl), (zg_2 (List.mem_of_getElem? (i := 129) rfl) rfl)⟩
theorem lk_Town_66 : zLV "OthersHands$Town" 66 m_Town_reach 1 := ⟨cd_Town_reach, by decide +kernel, (zg_2 (List.mem_of_getElem? (i := 123) rfl) rfl), (zg_2 (List.mem_of_getElem? (i := 124) rfl) rfl), (zg_2 (List.mem_of_getElem? (i := 125) rfl) rfl)⟩
theorem lk_Town_69 : zLV "OthersHands$Town" 69 m_Pages_handsOf 1 := ⟨cd_Pages_handsOf, by decide +kernel, (zg_2 (List.mem_of_getElem? (i := 137) rfl) rfl), (zg_2 (List.mem_of_getElem? (i := 138) rfl) rfl), (zg_2 (List.mem_of_getElem? (i := 139) rfl) rfl)⟩
theorem lk_Town_72 : zLV "OthersHands$Town" 72 m_Town_touchers 1 := ⟨cd_Town_touchers, by decide +kernel, (zg_2 (List.mem_of_getElem? (i := 145) rfl) rfl), (zg_2 (List.mem_of_getElem? (i := 120) rfl) rfl), (zg_2 (List.mem_of_getElem? (i := 121) rfl) rfl)⟩
theorem lk_Town_75 : zLV "OthersHands$Town" 75 m_Town_withPartners 1 := ⟨cd_Town_withPartners, by decide +kernel, (zg_2 (List.mem_of_getElem? (i := 146) rfl) rfl), (zg_2 (List.mem_of_getElem? (i := 147) rfl) rfl), (zg_2 (List.mem_of_getElem? (i := 148) rfl) rfl)⟩
theorem lk_X_66 : zLS "OthersHandsModel" 66 m_X_in 3 := ⟨cd_X_in, by decide +kernel, (zg_3 (List.mem_of_getElem? (i := 232) rfl) rfl), (zg_3 (List.mem_of_getElem? (i := 233) rfl) rfl)⟩
theorem lk_X_76 : zLV "OthersHandsModel" 76 m_X_faultOf 0 := ⟨cd_X_faultOf, by decide +kernel, (zg_4 (List.mem_of_getElem? (i := 3) rfl) rfl), (zg_4 (List.mem_of_getElem? (i := 5) rfl) rfl), (zg_s (List.mem_of_getElem? (i := 21) rfl) rfl)⟩
theorem lk_X_83 : zLV "OthersHandsModel" 83 m_X_isThing 1 := ⟨cd_X_isThing, by decide +kernel, (zg_4 (List.mem_of_getElem? (i := 15) rfl) rfl), (zg_4 (List.mem_of_getElem? (i := 17) rfl) rfl), (zg_s (List.mem_of_getElem? (i := 22) rfl) rfl)⟩
theorem lk_X_87 : zLS "OthersHandsModel" 87 m_X_isMan 1 := ⟨cd_X_isMan, by decide +kernel, (zg_4 (List.mem_of_getElem? (i := 23) rfl) rfl), (zg_4 (List.mem_of_getElem? (i := 24) rfl) rfl)⟩
theorem lk_X_94 : zLV "OthersHandsModel" 94 m_X_walk 1 := ⟨cd_X_walk, by decide +kernel, (zg_4 (List.mem_of_getElem? (i := 50) rfl) rfl), (zg_4 (List.mem_of_getElem? (i := 52) rfl) rfl), (zg_s (List.mem_of_getElem? (i := 25) rfl) rfl)⟩
theorem lk_X_98 : zLS "OthersHandsModel" 98 m_X_has 2 := ⟨cd_X_has, by decide +kernel, (zg_4 (List.mem_of_getElem? (i := 63) rfl) rfl), (zg_4 (List.mem_of_getElem? (i := 64) rfl) rfl)⟩
theorem lk_X_102 : zLV "OthersHandsModel" 102 m_X_touchers 1 := ⟨cd_X_touchers, by decide +kernel, (zg_4 (List.mem_of_getElem? (i := 46) rfl) rfl), (zg_4 (List.mem_of_getElem? (i := 48) rfl) rfl), (zg_s (List.mem_of_getElem? (i := 24) rfl) rfl)⟩
theorem lk_X_106 : zLV "OthersHandsModel" 106 m_X_withPartners 1 := ⟨cd_X_withPartners, by decide +kernel, (zg_4 (List.mem_of_getElem? (i := 59) rfl) rfl), (zg_4 (List.mem_of_getElem? (i := 61) rfl) rfl), (zg_s (List.mem_of_getElem? (i := 27) rfl) rfl)⟩
theorem lk_X_109 : zLS "OthersHandsModel" 109 m_X_bits 1 := ⟨cd_X_bits, by decide +kernel, (zg_4 (List.mem_of_getElem? (i := 74) rfl) rfl), (zg_4 (List.mem_of_getElem? (i := 75) rfl) rfl)⟩
theorem lk_X_112 : zLV "OthersHandsModel" 112 m_X_shareOf 2 := ⟨cd_X_shareOf, by decide +kernel, (zg_4 (List.mem_of_getElem? (i := 70) rfl) rfl), (zg_4 (List.mem_of_getElem? (i := 72) rfl) rfl), (zg_s (List.mem_of_getElem? (i := 29) rfl) rfl)⟩
theorem lk_X_116 : zLV "OthersHandsModel" 116 m_X_asTold 0 := ⟨cd_X_asTold, by decide +kernel, (zg_4 (List.mem_of_getElem? (i := 42) rfl) rfl), (zg_4 (List.mem_of_getElem? (i := 44) rfl) rfl), (zg_s (List.mem_of_getElem? (i := 23) rfl) rfl)⟩
theorem lk_X_119 : zLV "OthersHandsModel" 119 m_X_barredFrom 1 := ⟨cd_X_barredFrom, by decide +kernel, (zg_4 (List.mem_of_getElem? (i := 55) rfl) rfl), (zg_4 (List.mem_of_getElem? (i := 57) rfl) rfl), (zg_s (List.mem_of_getElem? (i := 26) rfl) rfl)⟩
theorem lk_X_122 : zLV "OthersHandsModel" 122 m_X_byTenths 1 := ⟨cd_X_byTenths, by decide +kernel, (zg_4 (List.mem_of_getElem? (i := 66) rfl) rfl), (zg_4 (List.mem_of_getElem? (i := 68) rfl) rfl), (zg_s (List.mem_of_getElem? (i := 28) rfl) rfl)⟩
theorem lk_X_125 : zLV "OthersHandsModel" 125 m_X_mayHave 1 := ⟨cd_X_mayHave, by decide +kernel, (zg_4 (List.mem_of_getElem? (i := 81) rfl) rfl), (zg_4 (List.mem_of_getElem? (i := 83) rfl) rfl), (zg_s (List.mem_of_getElem? (i := 30) rfl) rfl)⟩
theorem lk_X_128 : zLV "OthersHandsModel" 128 m_X_nearTo 2 := ⟨cd_X_nearTo, by decide +kernel, (zg_4 (List.mem_of_getElem? (i := 89) rfl) rfl), (zg_4 (List.mem_of_getElem? (i := 91) rfl) rfl), (zg_s (List.mem_of_getElem? (i := 31) rfl) rfl)⟩
theorem lk_X_135 : zLV "OthersHandsModel" 135 m_X_opens 0 := ⟨cd_X_opens, by decide +kernel, (zg_4 (List.mem_of_getElem? (i := 115) rfl) rfl), (zg_4 (List.mem_of_getElem? (i := 117) rfl) rfl), (zg_s (List.mem_of_getElem? (i := 33) rfl) rfl)⟩
theorem lk_X_138 : zLV "OthersHandsModel" 138 m_X_manAt 2 := ⟨cd_X_manAt, by decide +kernel, (zg_4 (List.mem_of_getElem? (i := 123) rfl) rfl), (zg_4 (List.mem_of_getElem? (i := 125) rfl) rfl), (zg_s (List.mem_of_getElem? (i := 35) rfl) rfl)⟩
theorem lk_X_141 : zLV "OthersHandsModel" 141 m_X_codes 0 := ⟨cd_X_codes, by decide +kernel, (zg_4 (List.mem_of_getElem? (i := 111) rfl) rfl), (zg_4 (List.mem_of_getElem? (i := 113) rfl) rfl), (zg_s (List.mem_of_getElem? (i := 32) rfl) rfl)⟩
theorem lk_X_144 : zLV "OthersHandsModel" 144 m_X_fill 1 := ⟨cd_X_fill, by decide +kernel, (zg_4 (List.mem_of_getElem? (i := 119) rfl) rfl), (zg_4 (List.mem_of_getElem? (i := 121) rfl) rfl), (zg_s (List.mem_of_getElem? (i := 34) rfl) rfl)⟩
theorem lk_X_147 : zLV "OthersHandsModel" 147 m_X_layMays 0 := ⟨cd_X_layMays, by decide +kernel, (zg_4 (List.mem_of_getElem? (i := 135) rfl) rfl), (zg_4 (List.mem_of_getElem? (i := 137) rfl) rfl), (zg_s (List.mem_of_getElem? (i := 36) rfl) rfl)⟩
theorem lk_X_150 : zLV "OthersHandsModel" 150 m_X_feeds 2 := ⟨cd_X_feeds, by decide +kernel, (zg_4 (List.mem_of_getElem? (i := 147) rfl) rfl), (zg_4 (List.mem_of_getElem? (i := 149) rfl) rfl), (zg_s (List.mem_of_getElem? (i := 37) rfl) rfl)⟩
theorem lk_X_153 : zLV "OthersHandsModel" 153 m_X_allBarred 0 := ⟨cd_X_allBarred, by decide +kernel, (zg_4 (List.mem_of_getElem? (i := 159) rfl) rfl), (zg_4 (List.mem_of_getElem? (i := 161) rfl) rfl), (zg_s (List.mem_of_getElem? (i := 38) rfl) rfl)⟩
theorem lk_X_157 : zLV "OthersHandsModel" 157 m_X_layPlan 1 := ⟨cd_X_layPlan, by decide +kernel, (zg_4 (List.mem_of_getElem? (i := 164) rfl) rfl), (zg_4 (List.mem_of_getElem? (i := 166) rfl) rfl), (zg_s (List.mem_of_getElem? (i := 39) rfl) rfl)⟩
end
section
/-- a field that another class writes -/
def zPG (own : String) (ix ci k : Nat) (ty : FieldType) : Prop := ∃ (C : String) (T : u_T) (N : Nat) (t : Nat → FieldType), zCL[ci]? = some (C, T, N) ∧ (∀ w ∈ u_ws C T N, w ∈ zgt) ∧ k < N ∧ Cond.fieldLink own ix (T k).1 (T k).2.1 (T k).2.2.1 ∈ zgt ∧ (∀ k, k < N → parseFieldDescriptor (T k).2.2.1 = some (t k)) ∧ (∀ a, a < N → ∀ b, b < N → a ≠ b → (T a).2.1 ≠ (T b).2.1) ∧ (T k).2.2.2 = false ∧ parseFieldDescriptor (T k).2.2.1 = some ty
theorem zs_putG {μ : zMI} {kc ks pc : Nat} {lv : List (Nat × Value)} {st : List Value} {sh : List zShp} {M : zMem} {R : zEnd} {ix ci f o : Nat} {fs : List (Option (Option Nat))} {v : Int32} {ty : FieldType} (hd : decode μ.2.1 pc = .ok (.putfield ix, 3)) (F : zPG μ.1.cls ix ci f ty) (ho : sh[o]? = some (.inr (.inl (ci, fs)))) (hf : fs[f]? = some none) (hn : narrow ty (.int v) = .int v) (hfit : fits ty (.int v) = true) (k : zRT μ kc ks (pc + 3) lv st sh (zms M o f v) R) : zRT μ kc ks pc lv (.int v :: .ref o :: st) sh M R := by
  intro p l e Rm s m args below meth c H locs cells slots D cy B ls C V hc hs hl
  obtain ⟨Cn, T, N, t, h1, h2, h3, h4, h5, h6, h7, h8⟩ := F
  have hl0 : f < fs.length := (List.getElem?_eq_some_iff.mp hf).1
  refine va_put (D := D) (cl := zCL) (tys := zTY cy) (ws := zw cy B sh M) (fs := fs.mapIdx (fun j x => zv B (zfv (M o) j x))) C.1 C.2.1 C.2.2.2.2.2.1 h2 t h5 h6 C.2.2.2.2.1 V.1 V.2.1 (zw_D cy B sh M) (zS_self V.2.2.2.2.1) o (zw_at ho) h1 f h3 (C.2.2.2.2.2.1 _ h4) (fun _ h9 => h9) h7 h8 hn hfit (by simp; exact hl0) hd (fun H1 locs1 hP hD hS => ?_)
  have he : zw cy B sh (zms M o f v) = (zw cy B sh M).set o (B + o, .inr (ci, (fs.mapIdx (fun j x => zv B (zfv (M o) j x))).set f (.int v))) := by
    rw [zw_same ho (zms_ne M o f v), zms_row, ← zc_fs hf]
    rfl
  have hP : va_P D zCL (zw cy B sh (zms M o f v)) H1 := by rw [he]; exact hP
  exact zW_size (fun hz => k p l e Rm s m args below meth c H1 locs1 cells slots D cy B ls C (zWd_write V hP hS hz rfl) hc hs hl)
theorem pg_Reader_18 : zPG "OthersHands$Reader" 18 4 5 .int := ⟨_, _, _, _, rfl, zi_Pages, by decide, by decide +kernel, zo_Pages, zn_Pages, rfl, by decide +kernel⟩
theorem zs_max {μ : zMI} {kc ks pc : Nat} {lv : List (Nat × Value)} {st : List Value} {sh : List zShp} {M : zMem} {R : zEnd} {ix : Nat} {x y : Int32} (hd : decode μ.2.1 pc = .ok (.invokestatic ix, 3)) (hw : Cond.methodLink μ.1.cls ix Lib.Math.max.name ∈ zgt) (hr : 1 ≤ μ.2.2.2.2.1 ∧ (st.map fun v => v.category).sum + 13 ≤ μ.2.2.2.2.2) (k : zRT μ kc ks (pc + 3) lv (.int (if x < y then y else x) :: st) sh M R) : zRT μ kc ks pc lv (.int y :: .int x :: st) sh M R := by
  intro p l e Rm s m args below meth c H locs cells slots D cy B ls C V hc hs hl
  have hts := C.2.2.2.2.2.1
  exact va_mmax (rest := st.map (zv B)) C.1 C.2.1 (C.2.2.2.1.trans hl.1.symm) C.2.2.2.2.1 (hts _ hw) (hts _ (by decide +kernel)) (hts _ (by decide +kernel)) (hts _ (by decide +kernel)) (Nat.le_trans hr.1 C.2.2.2.2.2.2.2.2.1) (by rw [zst_sum]; exact Nat.le_trans hr.2 C.2.2.2.2.2.2.2.2.2.1) (by omega) (by omega) hd (k p l e Rm s m args below meth c H locs cells slots D cy B ls C V hc hs hl)
end
section
/-! words of the contracts -/
def bI (b : Bool) : Int32 := if b then 1 else 0
theorem bI_0 {b : Bool} (h : bI b = 0) : b = false := by cases b with | false => rfl | true => exact absurd h (by decide)
theorem bI_1 {b : Bool} (h : ¬ bI b = 0) : b = true := by cases b with | true => rfl | false => exact absurd rfl h
theorem bI_nar (b : Bool) : narrow .boolean (.int (bI b)) = .int (bI b) := by cases b <;> rfl
/-- an int answer and a heap; an answer of a kind; no answer -/
def qF (g : Nat → Option Nat) (X : List zShp) (r : Int32) (M2 : zMem) : zEnd := fun v sh1 M1 => some (.int r) = v ∧ SHP g X = sh1 ∧ M2 = M1
def qV (g : Nat → Option Nat) (X : List zShp) (M2 : zMem) : zEnd := fun v sh1 M1 => none = v ∧ SHP g X = sh1 ∧ M2 = M1
def qR (g : Nat → Option Nat) (X : List zShp) (Q : Int32 → zMem → Prop) : zEnd := fun v sh1 M1 => ∃ r : Int32, some (.int r) = v ∧ SHP g X = sh1 ∧ Q r M1
def qW (g : Nat → Option Nat) (X : List zShp) (Q : zMem → Prop) : zEnd := fun v sh1 M1 => none = v ∧ SHP g X = sh1 ∧ Q M1
theorem qF_i {g : Nat → Option Nat} {X : List zShp} {r r2 : Int32} {M M2 : zMem} (h : r = r2) (hM : M2 = M) : qF g X r M2 (some (.int r2)) (SHP g X) M := ⟨by rw [h], rfl, hM⟩
theorem qR_i {g : Nat → Option Nat} {X : List zShp} {Q : Int32 → zMem → Prop} {r : Int32} {M : zMem} (h : Q r M) : qR g X Q (some (.int r)) (SHP g X) M := ⟨r, rfl, rfl, h⟩
def hb (a k : Int32) : Bool := !decide ((a >>> (k &&& 31)) &&& 1 = 0)
def isM (m : Int32) : Bool := !decide (m < 0) && !decide (6 ≤ m)
def inI (v lo hi : Int32) : Bool := !decide (v < lo) && !decide (hi < v)
def bO (x : Int32) : Int32 := if x = -6 then 0 else 1 <<< (x &&& 31)
def ahd (x k : Int32) : Bool := !decide (x < 0) && !decide (k ≤ x)
def mx (x y : Int32) : Int32 := if x < y then y else x
def mO (w : Int32) : Int32 := if w = 0 then 9 else if w = 1 then 1 else 10
def bc1 (x : Int32) : Int32 := x - (((Int32.toUInt32 x >>> (Int32.toUInt32 1 &&& Int32.toUInt32 31)).toInt32) &&& 1431655765)
def bc2 (x : Int32) : Int32 := (x &&& 858993459) + (((Int32.toUInt32 x >>> (Int32.toUInt32 2 &&& Int32.toUInt32 31)).toInt32) &&& 858993459)
def bc3 (x : Int32) : Int32 := (x + ((Int32.toUInt32 x >>> (Int32.toUInt32 4 &&& Int32.toUInt32 31)).toInt32)) &&& 252645135
def bc4 (x : Int32) : Int32 := x + ((Int32.toUInt32 x >>> (Int32.toUInt32 8 &&& Int32.toUInt32 31)).toInt32)
def bc5 (x : Int32) : Int32 := x + ((Int32.toUInt32 x >>> (Int32.toUInt32 16 &&& Int32.toUInt32 31)).toInt32)
def bc (x : Int32) : Int32 := bc5 (bc4 (bc3 (bc2 (bc1 x)))) &&& 63
def bt6n (x : Int32) : Nat → Int32
  | 0 => 0
  | n + 1 => bt6n x n + ((x >>> (nI n &&& 31)) &&& 1)
def bt6 (x : Int32) : Int32 := bt6n x 6
end
section
theorem v_O_has_0 (g : Nat → Option Nat) (X : List zShp) (M : zMem) (x0 x1 : Int32) (R : zEnd) (h : ((((x0 >>> (x1 &&& 31)) &&& 1) = 0) → (R (some (.int 0)) (SHP g X) M)) ∧ ((¬ ((x0 >>> (x1 &&& 31)) &&& 1) = 0) → (R (some (.int 1)) (SHP g X) M))) : zRT m_O_has 0 0 0 [(0, .int x0), (1, .int x1)] [] (SHP g X) M R := by
  refine zs_iload_n 0 d_O_has_0 rfl (List.mem_of_getElem? (i := 0) rfl) ?_
  refine zs_iload_n 1 d_O_has_1 rfl (List.mem_of_getElem? (i := 1) rfl) ?_
  refine zs_ishr d_O_has_2 ?_
  refine zs_iconst 1 d_O_has_3 (by decide) ?_
  refine zs_iand d_O_has_4 ?_
  refine zs_if_eq 12 d_O_has_5 (by decide) (fun c1 => ?_) (fun c1 => ?_)
  · replace h := h.1 c1
    refine zs_iconst 0 d_O_has_12 (by decide) ?_
    exact zs_zret (by decide) d_O_has_13 rfl h
  · replace h := h.2 c1
    refine zs_iconst 1 d_O_has_8 (by decide) ?_
    refine zs_goto 13 d_O_has_9 (by decide) ?_
    exact zs_zret (by decide) d_O_has_13 rfl h
theorem v_O_isMan_0 (g : Nat → Option Nat) (X : List zShp) (M : zMem) (x0 : Int32) (R : zEnd) (h : ((x0 < 0) → (R (some (.int 0)) (SHP g X) M)) ∧ ((¬ x0 < 0) → (((6 ≤ x0) → (R (some (.int 0)) (SHP g X) M)) ∧ ((¬ 6 ≤ x0) → (R (some (.int 1)) (SHP g X) M))))) : zRT m_O_isMan 0 0 0 [(0, .int x0)] [] (SHP g X) M R := by
  refine zs_iload_n 0 d_O_isMan_0 rfl (List.mem_of_getElem? (i := 0) rfl) ?_
  refine zs_if_lt 14 d_O_isMan_1 (by decide) (fun c1 => ?_) (fun c1 => ?_)
  · replace h := h.1 c1
    refine zs_iconst 0 d_O_isMan_14 (by decide) ?_
    exact zs_zret (by decide) d_O_isMan_15 rfl h
  · replace h := h.2 c1
    refine zs_iload_n 0 d_O_isMan_4 rfl (List.mem_of_getElem? (i := 0) rfl) ?_
    refine zs_bipush 6 d_O_isMan_5 (by decide) ?_
    refine zs_icmp_ge 14 d_O_isMan_7 (by decide) (fun c2 => ?_) (fun c2 => ?_)
    · replace h := h.1 c2
      refine zs_iconst 0 d_O_isMan_14 (by decide) ?_
      exact zs_zret (by decide) d_O_isMan_15 rfl h
    · replace h := h.2 c2
      refine zs_iconst 1 d_O_isMan_10 (by decide) ?_
      refine zs_goto 15 d_O_isMan_11 (by decide) ?_
      exact zs_zret (by decide) d_O_isMan_15 rfl h
theorem v_X_in_0 (g : Nat → Option Nat) (X : List zShp) (M : zMem) (x0 x1 x2 : Int32) (R : zEnd) (h : ((x0 < x1) → (R (some (.int 0)) (SHP g X) M)) ∧ ((¬ x0 < x1) → (((x2 < x0) → (R (some (.int 0)) (SHP g X) M)) ∧ ((¬ x2 < x0) → (R (some (.int 1)) (SHP g X) M))))) : zRT m_X_in 0 0 0 [(0, .int x0), (1, .int x1), (2, .int x2)] [] (SHP g X) M R := by
  refine zs_iload_n 0 d_X_in_0 rfl (List.mem_of_getElem? (i := 0) rfl) ?_
  refine zs_iload_n 1 d_X_in_1 rfl (List.mem_of_getElem? (i := 1) rfl) ?_
  refine zs_icmp_lt 14 d_X_in_2 (by decide) (fun c1 => ?_) (fun c1 => ?_)
  · replace h := h.1 c1
    refine zs_iconst 0 d_X_in_14 (by decide) ?_
    exact zs_zret (by decide) d_X_in_15 rfl h
  · replace h := h.2 c1
    refine zs_iload_n 0 d_X_in_5 rfl (List.mem_of_getElem? (i := 0) rfl) ?_
    refine zs_iload_n 2 d_X_in_6 rfl (List.mem_of_getElem? (i := 2) rfl) ?_
    refine zs_icmp_gt 14 d_X_in_7 (by decide) (fun c2 => ?_) (fun c2 => ?_)
    · replace h := h.1 c2
      refine zs_iconst 0 d_X_in_14 (by decide) ?_
      exact zs_zret (by decide) d_X_in_15 rfl h
    · replace h := h.2 c2
      refine zs_iconst 1 d_X_in_10 (by decide) ?_
      refine zs_goto 15 d_X_in_11 (by decide) ?_
      exact zs_zret (by decide) d_X_in_15 rfl h
theorem v_X_has_0 (g : Nat → Option Nat) (X : List zShp) (M : zMem) (x0 x1 : Int32) (R : zEnd) (h : ((¬ ((x0 >>> (x1 &&& 31)) &&& 1) = 1) → (R (some (.int 0)) (SHP g X) M)) ∧ ((((x0 >>> (x1 &&& 31)) &&& 1) = 1) → (R (some (.int 1)) (SHP g X) M))) : zRT m_X_has 0 0 0 [(0, .int x0), (1, .int x1)] [] (SHP g X) M R := by
  refine zs_iload_n 0 d_X_has_0 rfl (List.mem_of_getElem? (i := 0) rfl) ?_
  refine zs_iload_n 1 d_X_has_1 rfl (List.mem_of_getElem? (i := 1) rfl) ?_
  refine zs_ishr d_X_has_2 ?_
  refine zs_iconst 1 d_X_has_3 (by decide) ?_
  refine zs_iand d_X_has_4 ?_
  refine zs_iconst 1 d_X_has_5 (by decide) ?_
  refine zs_icmp_ne 13 d_X_has_6 (by decide) (fun c1 => ?_) (fun c1 => ?_)
  · replace h := h.1 c1
    refine zs_iconst 0 d_X_has_13 (by decide) ?_
    exact zs_zret (by decide) d_X_has_14 rfl h
  · replace h := h.2 c1
    refine zs_iconst 1 d_X_has_9 (by decide) ?_
    refine zs_goto 14 d_X_has_10 (by decide) ?_
    exact zs_zret (by decide) d_X_has_14 rfl h
theorem v_Pages_bitOf_0 (g : Nat → Option Nat) (X : List zShp) (M : zMem) (x0 : Int32) (R : zEnd) (h : ((¬ x0 = (-6)) → (R (some (.int ((1 : Int32) <<< (x0 &&& 31)))) (SHP g X) M)) ∧ ((x0 = (-6)) → (R (some (.int 0)) (SHP g X) M))) : zRT m_Pages_bitOf 0 0 0 [(0, .int x0)] [] (SHP g X) M R := by
  refine zs_iload_n 0 d_Pages_bitOf_0 rfl (List.mem_of_getElem? (i := 0) rfl) ?_
  refine zs_bipush (-6) d_Pages_bitOf_1 (by decide) ?_
  refine zs_icmp_ne 10 d_Pages_bitOf_3 (by decide) (fun c1 => ?_) (fun c1 => ?_)
  · replace h := h.1 c1
    refine zs_iconst 1 d_Pages_bitOf_10 (by decide) ?_
    refine zs_iload_n 0 d_Pages_bitOf_11 rfl (List.mem_of_getElem? (i := 0) rfl) ?_
    refine zs_ishl d_Pages_bitOf_12 ?_
    exact zs_iret d_Pages_bitOf_13 rfl h
  · replace h := h.2 c1
    refine zs_iconst 0 d_Pages_bitOf_6 (by decide) ?_
    refine zs_goto 13 d_Pages_bitOf_7 (by decide) ?_
    exact zs_iret d_Pages_bitOf_13 rfl h
theorem v_Shares_isAhead_0 (g : Nat → Option Nat) (X : List zShp) (M : zMem) (x0 x1 : Int32) (R : zEnd) (h : ((x0 < 0) → (R (some (.int 0)) (SHP g X) M)) ∧ ((¬ x0 < 0) → (((x1 ≤ x0) → (R (some (.int 0)) (SHP g X) M)) ∧ ((¬ x1 ≤ x0) → (R (some (.int 1)) (SHP g X) M))))) : zRT m_Shares_isAhead 0 0 0 [(0, .int x0), (1, .int x1)] [] (SHP g X) M R := by
  refine zs_iload_n 0 d_Shares_isAhead_0 rfl (List.mem_of_getElem? (i := 0) rfl) ?_
  refine zs_if_lt 13 d_Shares_isAhead_1 (by decide) (fun c1 => ?_) (fun c1 => ?_)
  · replace h := h.1 c1
    refine zs_iconst 0 d_Shares_isAhead_13 (by decide) ?_
    exact zs_zret (by decide) d_Shares_isAhead_14 rfl h
  · replace h := h.2 c1
    refine zs_iload_n 0 d_Shares_isAhead_4 rfl (List.mem_of_getElem? (i := 0) rfl) ?_
    refine zs_iload_n 1 d_Shares_isAhead_5 rfl (List.mem_of_getElem? (i := 1) rfl) ?_
    refine zs_icmp_ge 13 d_Shares_isAhead_6 (by decide) (fun c2 => ?_) (fun c2 => ?_)
    · replace h := h.1 c2
      refine zs_iconst 0 d_Shares_isAhead_13 (by decide) ?_
      exact zs_zret (by decide) d_Shares_isAhead_14 rfl h
    · replace h := h.2 c2
      refine zs_iconst 1 d_Shares_isAhead_9 (by decide) ?_
      refine zs_goto 14 d_Shares_isAhead_10 (by decide) ?_
      exact zs_zret (by decide) d_Shares_isAhead_14 rfl h
theorem v_JI_bitCount_0 (g : Nat → Option Nat) (X : List zShp) (M : zMem) (x0 : Int32) (R : zEnd) (h : zRT m_JI_bitCount 0 0 10 [(0, .int (x0 - (((Int32.toUInt32 x0 >>> (Int32.toUInt32 1 &&& Int32.toUInt32 31)).toInt32) &&& 1431655765)))] [] (SHP g X) M R) : zRT m_JI_bitCount 0 0 0 [(0, .int x0)] [] (SHP g X) M R := by
  refine zs_iload_n 0 d_JI_bitCount_0 rfl (List.mem_of_getElem? (i := 0) rfl) ?_
  refine zs_iload_n 0 d_JI_bitCount_1 rfl (List.mem_of_getElem? (i := 0) rfl) ?_
  refine zs_iconst 1 d_JI_bitCount_2 (by decide) ?_
  refine zs_iushr d_JI_bitCount_3 ?_
  refine zs_ldcw (v := 1431655765) d_JI_bitCount_4 (by decide +kernel) ?_
  refine zs_iand d_JI_bitCount_7 ?_
  refine zs_isub d_JI_bitCount_8 ?_
  refine zs_istore_n2 0 [0] [(0, .int (x0 - (((Int32.toUInt32 x0 >>> (Int32.toUInt32 1 &&& Int32.toUInt32 31)).toInt32) &&& 1431655765)))] d_JI_bitCount_9 rfl (by decide) rfl ?_
  exact h
theorem v_JI_bitCount_10 (g : Nat → Option Nat) (X : List zShp) (M : zMem) (x0 : Int32) (R : zEnd) (h : zRT m_JI_bitCount 0 0 24 [(0, .int ((x0 &&& 858993459) + (((Int32.toUInt32 x0 >>> (Int32.toUInt32 2 &&& Int32.toUInt32 31)).toInt32) &&& 858993459)))] [] (SHP g X) M R) : zRT m_JI_bitCount 0 0 10 [(0, .int x0)] [] (SHP g X) M R := by
  refine zs_iload_n 0 d_JI_bitCount_10 rfl (List.mem_of_getElem? (i := 0) rfl) ?_
  refine zs_ldcw (v := 858993459) d_JI_bitCount_11 (by decide +kernel) ?_
  refine zs_iand d_JI_bitCount_14 ?_
  refine zs_iload_n 0 d_JI_bitCount_15 rfl (List.mem_of_getElem? (i := 0) rfl) ?_
  refine zs_iconst 2 d_JI_bitCount_16 (by decide) ?_
  refine zs_iushr d_JI_bitCount_17 ?_
  refine zs_ldcw (v := 858993459) d_JI_bitCount_18 (by decide +kernel) ?_
  refine zs_iand d_JI_bitCount_21 ?_
  refine zs_iadd d_JI_bitCount_22 ?_
  refine zs_istore_n2 0 [0] [(0, .int ((x0 &&& 858993459) + (((Int32.toUInt32 x0 >>> (Int32.toUInt32 2 &&& Int32.toUInt32 31)).toInt32) &&& 858993459)))] d_JI_bitCount_23 rfl (by decide) rfl ?_
  exact h
theorem v_JI_bitCount_24 (g : Nat → Option Nat) (X : List zShp) (M : zMem) (x0 : Int32) (R : zEnd) (h : zRT m_JI_bitCount 0 0 34 [(0, .int ((x0 + ((Int32.toUInt32 x0 >>> (Int32.toUInt32 4 &&& Int32.toUInt32 31)).toInt32)) &&& 252645135))] [] (SHP g X) M R) : zRT m_JI_bitCount 0 0 24 [(0, .int x0)] [] (SHP g X) M R := by
  refine zs_iload_n 0 d_JI_bitCount_24 rfl (List.mem_of_getElem? (i := 0) rfl) ?_
  refine zs_iload_n 0 d_JI_bitCount_25 rfl (List.mem_of_getElem? (i := 0) rfl) ?_
  refine zs_iconst 4 d_JI_bitCount_26 (by decide) ?_
  refine zs_iushr d_JI_bitCount_27 ?_
  refine zs_iadd d_JI_bitCount_28 ?_
  refine zs_ldcw (v := 252645135) d_JI_bitCount_29 (by decide +kernel) ?_
  refine zs_iand d_JI_bitCount_32 ?_
  refine zs_istore_n2 0 [0] [(0, .int ((x0 + ((Int32.toUInt32 x0 >>> (Int32.toUInt32 4 &&& Int32.toUInt32 31)).toInt32)) &&& 252645135))] d_JI_bitCount_33 rfl (by decide) rfl ?_
  exact h
theorem v_JI_bitCount_34 (g : Nat → Option Nat) (X : List zShp) (M : zMem) (x0 : Int32) (R : zEnd) (h : zRT m_JI_bitCount 0 0 41 [(0, .int (x0 + ((Int32.toUInt32 x0 >>> (Int32.toUInt32 8 &&& Int32.toUInt32 31)).toInt32)))] [] (SHP g X) M R) : zRT m_JI_bitCount 0 0 34 [(0, .int x0)] [] (SHP g X) M R := by
  refine zs_iload_n 0 d_JI_bitCount_34 rfl (List.mem_of_getElem? (i := 0) rfl) ?_
  refine zs_iload_n 0 d_JI_bitCount_35 rfl (List.mem_of_getElem? (i := 0) rfl) ?_
  refine zs_bipush 8 d_JI_bitCount_36 (by decide) ?_
  refine zs_iushr d_JI_bitCount_38 ?_
  refine zs_iadd d_JI_bitCount_39 ?_
  refine zs_istore_n2 0 [0] [(0, .int (x0 + ((Int32.toUInt32 x0 >>> (Int32.toUInt32 8 &&& Int32.toUInt32 31)).toInt32)))] d_JI_bitCount_40 rfl (by decide) rfl ?_
  exact h
theorem v_JI_bitCount_41 (g : Nat → Option Nat) (X : List zShp) (M : zMem) (x0 : Int32) (R : zEnd) (h : zRT m_JI_bitCount 0 0 48 [(0, .int (x0 + ((Int32.toUInt32 x0 >>> (Int32.toUInt32 16 &&& Int32.toUInt32 31)).toInt32)))] [] (SHP g X) M R) : zRT m_JI_bitCount 0 0 41 [(0, .int x0)] [] (SHP g X) M R := by
  refine zs_iload_n 0 d_JI_bitCount_41 rfl (List.mem_of_getElem? (i := 0) rfl) ?_
  refine zs_iload_n 0 d_JI_bitCount_42 rfl (List.mem_of_getElem? (i := 0) rfl) ?_
  refine zs_bipush 16 d_JI_bitCount_43 (by decide) ?_
  refine zs_iushr d_JI_bitCount_45 ?_
  refine zs_iadd d_JI_bitCount_46 ?_
  refine zs_istore_n2 0 [0] [(0, .int (x0 + ((Int32.toUInt32 x0 >>> (Int32.toUInt32 16 &&& Int32.toUInt32 31)).toInt32)))] d_JI_bitCount_47 rfl (by decide) rfl ?_
  exact h
theorem v_JI_bitCount_48 (g : Nat → Option Nat) (X : List zShp) (M : zMem) (x0 : Int32) (R : zEnd) (h : R (some (.int (x0 &&& 63))) (SHP g X) M) : zRT m_JI_bitCount 0 0 48 [(0, .int x0)] [] (SHP g X) M R := by
  refine zs_iload_n 0 d_JI_bitCount_48 rfl (List.mem_of_getElem? (i := 0) rfl) ?_
  refine zs_bipush 63 d_JI_bitCount_49 (by decide) ?_
  refine zs_iand d_JI_bitCount_51 ?_
  exact zs_iret d_JI_bitCount_52 rfl h
theorem v_Town_mostOf_0 (g : Nat → Option Nat) (X : List zShp) (M : zMem) (x0 : Int32) (R : zEnd) (h : ((x0 = 0) → (R (some (.int 9)) (SHP g X) M)) ∧ ((¬ x0 = 0) → (((x0 = 1) → (R (some (.int 1)) (SHP g X) M)) ∧ ((¬ x0 = 1) → (R (some (.int 10)) (SHP g X) M))))) : zRT m_Town_mostOf 0 0 0 [(0, .int x0)] [] (SHP g X) M R := by
  refine zs_iload_n 0 d_Town_mostOf_0 rfl (List.mem_of_getElem? (i := 0) rfl) ?_
  by_cases c1_0 : x0 = 0
  · replace h := h.1 c1_0
    refine zs_lookup 28 d_Town_mostOf_1 (by decide) (by rw [c1_0]; try rfl) (by decide) ?_
    refine zs_bipush 9 d_Town_mostOf_28 (by decide) ?_
    exact zs_iret d_Town_mostOf_30 rfl h
  replace h := h.2 c1_0
  by_cases c1_1 : x0 = 1
  · replace h := h.1 c1_1
    refine zs_lookup 31 d_Town_mostOf_1 (by decide) (by rw [c1_1]; try rfl) (by decide) ?_
    refine zs_iconst 1 d_Town_mostOf_31 (by decide) ?_
    exact zs_iret d_Town_mostOf_32 rfl h
  replace h := h.2 c1_1
  have q1_0 := zI_ne (z := 0) c1_0 (by decide)
  have q1_1 := zI_ne (z := 1) c1_1 (by decide)
  refine zs_lookup 33 d_Town_mostOf_1 (by decide) (zsw_lk2 q1_0 q1_1) (by decide) ?_
  refine zs_bipush 10 d_Town_mostOf_33 (by decide) ?_
  exact zs_iret d_Town_mostOf_35 rfl h
theorem v_X_bits_0 (g : Nat → Option Nat) (X : List zShp) (M : zMem) (x0 : Int32) (R : zEnd) (h : zRT m_X_bits 0 0 4 [(0, .int x0), (1, .int 0), (2, .int 0)] [] (SHP g X) M R) : zRT m_X_bits 0 0 0 [(0, .int x0)] [] (SHP g X) M R := by
  refine zs_iconst 0 d_X_bits_0 (by decide) ?_
  refine zs_istore_n2 1 [1, 0] [(0, .int x0), (1, .int 0)] d_X_bits_1 rfl (by decide) rfl ?_
  refine zs_iconst 0 d_X_bits_2 (by decide) ?_
  refine zs_istore_n2 2 [1, 2, 0] [(0, .int x0), (1, .int 0), (2, .int 0)] d_X_bits_3 rfl (by decide) rfl ?_
  exact h
theorem v_X_bits_4 (g : Nat → Option Nat) (X : List zShp) (M : zMem) (x0 x1 x2 : Int32) (R : zEnd) (h : ((6 ≤ x2) → (R (some (.int x1)) (SHP g X) M)) ∧ ((¬ 6 ≤ x2) → (zRT m_X_bits 0 0 4 [(0, .int x0), (1, .int (x1 + ((x0 >>> (x2 &&& 31)) &&& 1))), (2, .int (x2 + 1))] [] (SHP g X) M R))) : zRT m_X_bits 0 0 4 [(0, .int x0), (1, .int x1), (2, .int x2)] [] (SHP g X) M R := by
  refine zs_iload_n 2 d_X_bits_4 rfl (List.mem_of_getElem? (i := 2) rfl) ?_
  refine zs_bipush 6 d_X_bits_5 (by decide) ?_
  refine zs_icmp_ge 24 d_X_bits_7 (by decide) (fun c1 => ?_) (fun c1 => ?_)
  · replace h := h.1 c1
    refine zs_iload_n 1 d_X_bits_24 rfl (List.mem_of_getElem? (i := 1) rfl) ?_
    exact zs_iret d_X_bits_25 rfl h
  · replace h := h.2 c1
    refine zs_iload_n 1 d_X_bits_10 rfl (List.mem_of_getElem? (i := 1) rfl) ?_
    refine zs_iload_n 0 d_X_bits_11 rfl (List.mem_of_getElem? (i := 0) rfl) ?_
    refine zs_iload_n 2 d_X_bits_12 rfl (List.mem_of_getElem? (i := 2) rfl) ?_
    refine zs_ishr d_X_bits_13 ?_
    refine zs_iconst 1 d_X_bits_14 (by decide) ?_
    refine zs_iand d_X_bits_15 ?_
    refine zs_iadd d_X_bits_16 ?_
    refine zs_istore_n2 1 [1, 0, 2] [(0, .int x0), (1, .int (x1 + ((x0 >>> (x2 &&& 31)) &&& 1))), (2, .int x2)] d_X_bits_17 rfl (by decide) rfl ?_
    refine zs_iinc2 2 (x2 + 1) [1, 2, 0] [(0, .int x0), (1, .int (x1 + ((x0 >>> (x2 &&& 31)) &&& 1))), (2, .int (x2 + 1))] d_X_bits_18 rfl rfl (by decide) rfl ?_
    refine zs_goto 4 d_X_bits_21 (by decide) ?_
    exact h
section zLeaf
variable (g : Nat → Option Nat) (X : List zShp) (M : zMem)
theorem ex_O_has (a k : Int32) : zEx m_O_has 0 0 [.int a, .int k] (SHP g X) M (qF g X (bI (hb a k)) M) := by
  refine zEx_of _ (by decide) (by simp [Value.category]) (Nat.le_of_ble_eq_true rfl) rfl (v_O_has_0 g X M a k _ ⟨fun h => qF_i ?_ rfl, fun h => qF_i ?_ rfl⟩) <;> simp [hb, h, bI]
theorem ex_X_has (a k : Int32) : zEx m_X_has 0 0 [.int a, .int k] (SHP g X) M (qF g X (bI (hb a k)) M) := by
  have e : ∀ z : Int32, z &&& 1 = 0 ∨ z &&& 1 = 1 := by
    intro z
    obtain ⟨j, hj, e⟩ := pk_andE z (m := 1) 1 rfl
    have hj2 : j = 0 ∨ j = 1 := by omega
    rw [e]
    rcases hj2 with rfl | rfl
    · exact Or.inl rfl
    · exact Or.inr rfl
  refine zEx_of _ (by decide) (by simp [Value.category]) (Nat.le_of_ble_eq_true rfl) rfl (v_X_has_0 g X M a k _ ⟨fun h => qF_i ?_ rfl, fun h => qF_i ?_ rfl⟩)
  · have h0 := (e (a >>> (k &&& 31))).resolve_right h
    simp [hb, h0, bI]
  · simp [hb, h, bI]
theorem ex_O_isMan (m : Int32) : zEx m_O_isMan 0 0 [.int m] (SHP g X) M (qF g X (bI (isM m)) M) := by
  refine zEx_of _ (by decide) (by simp [Value.category]) (Nat.le_of_ble_eq_true rfl) rfl (v_O_isMan_0 g X M m _ ⟨fun h => qF_i ?_ rfl, fun h => ⟨fun h2 => qF_i ?_ rfl, fun h2 => qF_i ?_ rfl⟩⟩) <;> simp [isM, *, bI]
theorem ex_X_in (v lo hi : Int32) : zEx m_X_in 0 0 [.int v, .int lo, .int hi] (SHP g X) M (qF g X (bI (inI v lo hi)) M) := by
  refine zEx_of _ (by decide) (by simp [Value.category]) (Nat.le_of_ble_eq_true rfl) rfl (v_X_in_0 g X M v lo hi _ ⟨fun h => qF_i ?_ rfl, fun h => ⟨fun h2 => qF_i ?_ rfl, fun h2 => qF_i ?_ rfl⟩⟩) <;> simp [inI, *, bI]
theorem ex_Pages_bitOf (x : Int32) : zEx m_Pages_bitOf 0 0 [.int x] (SHP g X) M (qF g X (bO x) M) := by
  refine zEx_of _ (by decide) (by simp [Value.category]) (Nat.le_of_ble_eq_true rfl) rfl (v_Pages_bitOf_0 g X M x _ ⟨fun h => qF_i ?_ rfl, fun h => qF_i ?_ rfl⟩) <;> simp [bO, h]
theorem ex_Shares_isAhead (x k : Int32) : zEx m_Shares_isAhead 0 0 [.int x, .int k] (SHP g X) M (qF g X (bI (ahd x k)) M) := by
  refine zEx_of _ (by decide) (by simp [Value.category]) (Nat.le_of_ble_eq_true rfl) rfl (v_Shares_isAhead_0 g X M x k _ ⟨fun h => qF_i ?_ rfl, fun h => ⟨fun h2 => qF_i ?_ rfl, fun h2 => qF_i ?_ rfl⟩⟩) <;> simp [ahd, *, bI]
theorem ex_Town_mostOf (w : Int32) : zEx m_Town_mostOf 0 0 [.int w] (SHP g X) M (qF g X (mO w) M) := by
  refine zEx_of _ (by decide) (by simp [Value.category]) (Nat.le_of_ble_eq_true rfl) rfl (v_Town_mostOf_0 g X M w _ ⟨fun h => qF_i ?_ rfl, fun h => ⟨fun h2 => qF_i ?_ rfl, fun h2 => qF_i ?_ rfl⟩⟩) <;> simp [mO, *]
theorem ex_JI_bitCount (x : Int32) : zEx m_JI_bitCount 0 0 [.int x] (SHP g X) M (qF g X (bc x) M) := by
  refine zEx_of _ (by decide) (by simp [Value.category]) (Nat.le_of_ble_eq_true rfl) rfl (v_JI_bitCount_0 g X M x _ ?_)
  refine v_JI_bitCount_10 g X M (bc1 x) _ ?_
  refine v_JI_bitCount_24 g X M (bc2 (bc1 x)) _ ?_
  refine v_JI_bitCount_34 g X M (bc3 (bc2 (bc1 x))) _ ?_
  refine v_JI_bitCount_41 g X M (bc4 (bc3 (bc2 (bc1 x)))) _ ?_
  refine v_JI_bitCount_48 g X M (bc5 (bc4 (bc3 (bc2 (bc1 x))))) _ ?_
  exact qF_i rfl rfl
theorem ex_X_bits (x : Int32) : zEx m_X_bits 0 0 [.int x] (SHP g X) M (qF g X (bt6 x) M) := by
  refine zEx_of _ (by decide) (by simp [Value.category]) (Nat.le_of_ble_eq_true rfl) rfl (v_X_bits_0 g X M x _ ?_)
  have L : ∀ n k, k + n = 6 → zRT m_X_bits 0 0 4 [(0, .int x), (1, .int (bt6n x k)), (2, .int (nI k))] [] (SHP g X) M (qF g X (bt6 x) M) := by
    intro n
    induction n with
    | zero =>
      intro k hk
      have : k = 6 := by omega
      subst this
      exact v_X_bits_4 g X M x _ _ _ ⟨fun _ => qF_i rfl rfl, fun h => absurd (by decide) h⟩
    | succ n ih =>
      intro k hk
      refine v_X_bits_4 g X M x _ _ _ ⟨fun h => absurd h (nI_ge (b := 6) (by omega) (by decide)), fun _ => ?_⟩
      rw [nI_1]
      exact ih (k + 1) (by omega)
  exact L 6 0 rfl
end zLeaf
end
section
/-! the class's own small methods: what they answer, as functions of the numbers -/
def kOr (f : Nat → Int32) : Nat → Int32
  | 0 => 0
  | n + 1 => kOr f n ||| f n
def kCN (M : zMem) : Nat := (M 11 5).toNatClampNeg
def kDN (M : zMem) : Nat := (M 10 6).toNatClampNeg
def kCnt (M : zMem) : Prop := ∃ n : Nat, n ≤ 10 ∧ M 11 5 = nI n
def kDpt (M : zMem) : Prop := ∃ n : Nat, n ≤ 9 ∧ M 10 6 = nI n
theorem kCnt_e {M : zMem} (h : kCnt M) : M 11 5 = nI (kCN M) ∧ kCN M ≤ 10 := by
  obtain ⟨n, h1, h2⟩ := h
  unfold kCN
  rw [h2, nI_clamp (by omega)]
  exact ⟨rfl, h1⟩
theorem kDpt_e {M : zMem} (h : kDpt M) : M 10 6 = nI (kDN M) ∧ kDN M ≤ 9 := by
  obtain ⟨n, h1, h2⟩ := h
  unfold kDN
  rw [h2, nI_clamp (by omega)]
  exact ⟨rfl, h1⟩
def kLOf (b : Int32) : Nat → Nat → Int32
  | _, 0 => -6
  | k, n + 1 => if hb b (nI k) = true then nI k else kLOf b (k + 1) n
def kLO (b : Int32) : Int32 := kLOf b 0 10
def kIsT (c t : Int32) : Bool := !decide (t < 0) && !decide (c ≤ t)
def kHO (M : zMem) (b : Int32) : Int32 := kOr (fun k => if hb b (nI k) = true then M 12 k else 0) (kCN M)
def kBh (M : zMem) (b w : Int32) : Int32 := kOr (fun k => if hb b (nI k) = true then (bO (M 13 k) ||| bO (M 14 k)) ||| (if w = 0 then 0 else bO (M 15 k)) else 0) (kCN M)
def kCpl (M : zMem) (m : Int32) : Int32 := (1 <<< (m &&& 31)) ||| (if M 17 (Int32.toNatClampNeg m) = -6 then (0 : Int32) else 1 <<< (M 17 (Int32.toNatClampNeg m) &&& 31))
def kWP (M : zMem) (b : Int32) : Int32 := kOr (fun k => if hb b (nI k) = true then kCpl M (nI k) else 0) 6
def kTl (M : zMem) : Int32 := if M 10 7 = 1 then 1 else 0
def kRcn (M : zMem) : Nat → Int32 → Int32 → Int32
  | 0, all, _ => all
  | n + 1, all, layer => if layer = 0 then all else kRcn M n (all ||| layer) (kBh M layer (kTl M))
def kRch (M : zMem) (t : Int32) : Int32 := kRcn M (kDN M + 1) 0 (1 <<< (t &&& 31))
def kTch (M : zMem) (t : Int32) : Int32 := kHO M (kRch M t)
def kLwf (M : zMem) (m : Int32) : Int32 := kOr (fun k => if kTch M (nI k) &&& kCpl M m = 0 then 1 <<< (nI k &&& 31) else 0) (kCN M)
def kTnt (M : zMem) (m : Int32) : Int32 := kOr (fun k => if hb (kTch M (nI k)) m = true then 1 <<< (nI k &&& 31) else 0) (kCN M)
def kFsn (M : zMem) (men : Int32) : Nat → Nat → Int32 → Int32
  | 0, _, _ => -6
  | n + 1, s, layer => if layer = 0 then -6 else if kHO M layer &&& men = 0 then kFsn M men n (s + 1) (kBh M layer (kTl M)) else nI s
def kFst (M : zMem) (t men : Int32) : Int32 := kFsn M men 10 0 (1 <<< (t &&& 31))
section zC1
variable (g : Nat → Option Nat) (X : List zShp) (M : zMem)
theorem v_O_leastOf_0 (g : Nat → Option Nat) (X : List zShp) (M : zMem) (x0 : Int32) (R : zEnd) (h : zRT m_O_leastOf 0 0 2 [(0, .int x0), (1, .int 0)] [] (SHP g X) M R) : zRT m_O_leastOf 0 0 0 [(0, .int x0)] [] (SHP g X) M R := by
  refine zs_iconst 0 d_O_leastOf_0 (by decide) ?_
  refine zs_istore_n2 1 [1, 0] [(0, .int x0), (1, .int 0)] d_O_leastOf_1 rfl (by decide) rfl ?_
  exact h
theorem v_O_leastOf_2 (g : Nat → Option Nat) (X : List zShp) (M : zMem) (x0 x1 : Int32) (R : zEnd) (h : ((10 ≤ x1) → (R (some (.int (-6))) (SHP g X) M)) ∧ ((¬ 10 ≤ x1) → ((((hb x0 x1) = false) → (zRT m_O_leastOf 0 0 2 [(0, .int x0), (1, .int (x1 + 1))] [] (SHP g X) M R)) ∧ (((hb x0 x1) = true) → (R (some (.int x1)) (SHP g X) M))))) : zRT m_O_leastOf 0 0 2 [(0, .int x0), (1, .int x1)] [] (SHP g X) M R := by
  refine zs_iload_n 1 d_O_leastOf_2 rfl (List.mem_of_getElem? (i := 1) rfl) ?_
  refine zs_bipush 10 d_O_leastOf_3 (by decide) ?_
  refine zs_icmp_ge 24 d_O_leastOf_5 (by decide) (fun c1 => ?_) (fun c1 => ?_)
  · replace h := h.1 c1
    refine zs_bipush (-6) d_O_leastOf_24 (by decide) ?_
    exact zs_iret d_O_leastOf_26 rfl h
  · replace h := h.2 c1
    refine zs_iload_n 0 d_O_leastOf_8 rfl (List.mem_of_getElem? (i := 0) rfl) ?_
    refine zs_iload_n 1 d_O_leastOf_9 rfl (List.mem_of_getElem? (i := 1) rfl) ?_
    refine zs_callS (kc := 0) (ks := 0) (kc1 := 0) (ks1 := 0) (st := []) [.int x0, .int x1] d_O_leastOf_10 lk_O_242 ⟨by decide, by decide⟩ rfl (Nat.le_of_ble_eq_true rfl) (ex_O_has g X M x0 x1) (fun v2 sh2 M2 hR => ?_)
    obtain ⟨rfl, rfl, rfl⟩ := hR
    refine zs_if_eq 18 d_O_leastOf_13 (by decide) (fun c3 => ?_) (fun c3 => ?_)
    · replace h := h.1 (bI_0 c3)
      refine zs_iinc2 1 (x1 + 1) [1, 0] [(0, .int x0), (1, .int (x1 + 1))] d_O_leastOf_18 rfl rfl (by decide) rfl ?_
      refine zs_goto 2 d_O_leastOf_21 (by decide) ?_
      exact h
    · replace h := h.2 (bI_1 c3)
      refine zs_iload_n 1 d_O_leastOf_16 rfl (List.mem_of_getElem? (i := 1) rfl) ?_
      exact zs_iret d_O_leastOf_17 rfl h
theorem ex_O_leastOf (b : Int32) : zEx m_O_leastOf 0 0 [.int b] (SHP g X) M (qF g X (kLO b) M) := by
  refine zEx_of _ (by decide) (by simp [Value.category]) (Nat.le_of_ble_eq_true rfl) rfl (v_O_leastOf_0 g X M b _ ?_)
  have L : ∀ n k, k + n = 10 → zRT m_O_leastOf 0 0 2 [(0, .int b), (1, .int (nI k))] [] (SHP g X) M (qF g X (kLOf b k n) M) := by
    intro n
    induction n with
    | zero =>
      intro k hk
      refine v_O_leastOf_2 g X M b _ _ ⟨fun _ => qF_i rfl rfl, fun h => absurd (nI_le (a := 10) (by omega) (by omega)) h⟩
    | succ n ih =>
      intro k hk
      refine v_O_leastOf_2 g X M b _ _ ⟨fun h => absurd h (nI_ge (b := 10) (by omega) (by decide)), fun _ => ⟨fun h => ?_, fun h => qF_i (by simp [kLOf, h]) rfl⟩⟩
      rw [nI_1]
      have := ih (k + 1) (by omega)
      simp only [kLOf, h]
      exact this
  exact L 10 0 rfl
theorem v_O_isThing_0 (g : Nat → Option Nat) (X : List zShp) (M : zMem) (x1 : Int32) (R : zEnd) (h : ((x1 < 0) → (R (some (.int 0)) (SHP g X) M)) ∧ ((¬ x1 < 0) → ((((M 11 5) ≤ x1) → (R (some (.int 0)) (SHP g X) M)) ∧ ((¬ (M 11 5) ≤ x1) → (R (some (.int 1)) (SHP g X) M))))) : zRT m_O_isThing 0 0 0 [(0, .ref 0), (1, .int x1)] [] (SHP g X) M R := by
  refine zs_iload_n 1 d_O_isThing_0 rfl (List.mem_of_getElem? (i := 1) rfl) ?_
  refine zs_if_lt 22 d_O_isThing_1 (by decide) (fun c1 => ?_) (fun c1 => ?_)
  · replace h := h.1 c1
    refine zs_iconst 0 d_O_isThing_22 (by decide) ?_
    exact zs_zret (by decide) d_O_isThing_23 rfl h
  · replace h := h.2 c1
    refine zs_iload_n 1 d_O_isThing_4 rfl (List.mem_of_getElem? (i := 1) rfl) ?_
    refine zs_aload_n 0 d_O_isThing_5 rfl (List.mem_of_getElem? (i := 0) rfl) ?_
    refine zs_get d_O_isThing_6 gf_O_26 (sh_0 g X) rfl ?_
    refine zs_get d_O_isThing_9 gf_O_82 (sh_10 g X) rfl ?_
    refine zs_get d_O_isThing_12 gf_O_85 (sh_11 g X) rfl ?_
    refine zs_icmp_ge 22 d_O_isThing_15 (by decide) (fun c2 => ?_) (fun c2 => ?_)
    · replace h := h.1 c2
      refine zs_iconst 0 d_O_isThing_22 (by decide) ?_
      exact zs_zret (by decide) d_O_isThing_23 rfl h
    · replace h := h.2 c2
      refine zs_iconst 1 d_O_isThing_18 (by decide) ?_
      refine zs_goto 23 d_O_isThing_19 (by decide) ?_
      exact zs_zret (by decide) d_O_isThing_23 rfl h
theorem ex_O_isThing (t : Int32) : zEx m_O_isThing 0 0 [.ref 0, .int t] (SHP g X) M (qF g X (bI (kIsT (M 11 5) t)) M) := by
  refine zEx_of _ (by decide) (by simp [Value.category]) (Nat.le_of_ble_eq_true rfl) rfl (v_O_isThing_0 g X M t _ ⟨fun h => qF_i ?_ rfl, fun h => ⟨fun h2 => qF_i ?_ rfl, fun h2 => qF_i ?_ rfl⟩⟩) <;> simp [kIsT, *, bI]
theorem v_X_isMan_0 (g : Nat → Option Nat) (X : List zShp) (M : zMem) (x0 : Int32) (R : zEnd) (h : R (some (.int (bI (inI x0 0 5)))) (SHP g X) M) : zRT m_X_isMan 0 0 0 [(0, .int x0)] [] (SHP g X) M R := by
  refine zs_iload_n 0 d_X_isMan_0 rfl (List.mem_of_getElem? (i := 0) rfl) ?_
  refine zs_iconst 0 d_X_isMan_1 (by decide) ?_
  refine zs_iconst 5 d_X_isMan_2 (by decide) ?_
  refine zs_callS (kc := 0) (ks := 0) (kc1 := 0) (ks1 := 0) (st := []) [.int x0, .int 0, .int 5] d_X_isMan_3 lk_X_66 ⟨by decide, by decide⟩ rfl (Nat.le_of_ble_eq_true rfl) (ex_X_in g X M x0 0 5) (fun v1 sh1 M1 hR => ?_)
  obtain ⟨rfl, rfl, rfl⟩ := hR
  exact zs_zret (bI_nar _) d_X_isMan_6 rfl h
theorem ex_X_isMan (m : Int32) : zEx m_X_isMan 0 0 [.int m] (SHP g X) M (qF g X (bI (isM m)) M) := by
  refine zEx_of _ (by decide) (by simp [Value.category]) (Nat.le_of_ble_eq_true rfl) rfl (v_X_isMan_0 g X M m _ (qF_i ?_ rfl))
  have e : (6 ≤ m) ↔ (5 < m) := by rw [Int32.le_iff_toInt_le, Int32.lt_iff_toInt_lt]; exact Iff.rfl
  simp only [isM, inI, e]
theorem v_X_isThing_0 (g : Nat → Option Nat) (X : List zShp) (M : zMem) (x1 : Int32) (R : zEnd) (h : R (some (.int (bI (inI x1 0 ((M 35 6) - 1))))) (SHP g X) M) : zRT m_X_isThing 0 0 0 [(0, .ref 35), (1, .int x1)] [] (SHP g X) M R := by
  refine zs_iload_n 1 d_X_isThing_0 rfl (List.mem_of_getElem? (i := 1) rfl) ?_
  refine zs_iconst 0 d_X_isThing_1 (by decide) ?_
  refine zs_aload_n 0 d_X_isThing_2 rfl (List.mem_of_getElem? (i := 0) rfl) ?_
  refine zs_get d_X_isThing_3 gf_X_70 (sh_35 g X) rfl ?_
  refine zs_iconst 1 d_X_isThing_6 (by decide) ?_
  refine zs_isub d_X_isThing_7 ?_
  refine zs_callS (kc := 0) (ks := 0) (kc1 := 0) (ks1 := 0) (st := []) [.int x1, .int 0, .int ((M 35 6) - 1)] d_X_isThing_8 lk_X_66 ⟨by decide, by decide⟩ rfl (Nat.le_of_ble_eq_true rfl) (ex_X_in g X M x1 0 ((M 35 6) - 1)) (fun v1 sh1 M1 hR => ?_)
  obtain ⟨rfl, rfl, rfl⟩ := hR
  exact zs_zret (bI_nar _) d_X_isThing_11 rfl h
theorem ex_X_isThing (t : Int32) : zEx m_X_isThing 0 0 [.ref 35, .int t] (SHP g X) M (qF g X (bI (inI t 0 (M 35 6 - 1))) M) :=
  zEx_of _ (by decide) (by simp [Value.category]) (Nat.le_of_ble_eq_true rfl) rfl (v_X_isThing_0 g X M t _ (qF_i rfl rfl))
theorem v_Pages_handsOf_0 (g : Nat → Option Nat) (X : List zShp) (M : zMem) (x1 : Int32) (R : zEnd) (h : zRT m_Pages_handsOf 0 0 4 [(0, .ref 11), (1, .int x1), (2, .int 0), (3, .int 0)] [] (SHP g X) M R) : zRT m_Pages_handsOf 0 0 0 [(0, .ref 11), (1, .int x1)] [] (SHP g X) M R := by
  refine zs_iconst 0 d_Pages_handsOf_0 (by decide) ?_
  refine zs_istore_n2 2 [1, 2, 0] [(0, .ref 11), (1, .int x1), (2, .int 0)] d_Pages_handsOf_1 rfl (by decide) rfl ?_
  refine zs_iconst 0 d_Pages_handsOf_2 (by decide) ?_
  refine zs_istore_n2 3 [1, 2, 3, 0] [(0, .ref 11), (1, .int x1), (2, .int 0), (3, .int 0)] d_Pages_handsOf_3 rfl (by decide) rfl ?_
  exact h
theorem v_Pages_handsOf_4 (g : Nat → Option Nat) (X : List zShp) (M : zMem) (x1 x2 x3 : Int32) (R : zEnd) (h : (((M 11 5) ≤ x3) → (R (some (.int x2)) (SHP g X) M)) ∧ ((¬ (M 11 5) ≤ x3) → ((((hb x1 x3) = false) → (zRT m_Pages_handsOf 0 0 4 [(0, .ref 11), (1, .int x1), (2, .int x2), (3, .int (x3 + 1))] [] (SHP g X) M R)) ∧ (((hb x1 x3) = true) → ((vp_in x3 10) ∧ (zRT m_Pages_handsOf 0 0 4 [(0, .ref 11), (1, .int x1), (2, .int (x2 ||| (M 12 (Int32.toNatClampNeg x3)))), (3, .int (x3 + 1))] [] (SHP g X) M R)))))) : zRT m_Pages_handsOf 0 0 4 [(0, .ref 11), (1, .int x1), (2, .int x2), (3, .int x3)] [] (SHP g X) M R := by
  refine zs_iload_n 3 d_Pages_handsOf_4 rfl (List.mem_of_getElem? (i := 3) rfl) ?_
  refine zs_aload_n 0 d_Pages_handsOf_5 rfl (List.mem_of_getElem? (i := 0) rfl) ?_
  refine zs_get d_Pages_handsOf_6 gf_Pages_33 (sh_11 g X) rfl ?_
  refine zs_icmp_ge 35 d_Pages_handsOf_9 (by decide) (fun c1 => ?_) (fun c1 => ?_)
  · replace h := h.1 c1
    refine zs_iload_n 2 d_Pages_handsOf_35 rfl (List.mem_of_getElem? (i := 2) rfl) ?_
    exact zs_iret d_Pages_handsOf_36 rfl h
  · replace h := h.2 c1
    refine zs_iload_n 1 d_Pages_handsOf_12 rfl (List.mem_of_getElem? (i := 1) rfl) ?_
    refine zs_iload_n 3 d_Pages_handsOf_13 rfl (List.mem_of_getElem? (i := 3) rfl) ?_
    refine zs_callSN (kc := 0) (ks := 0) (kc1 := 0) (ks1 := 0) (st := []) [.int x1, .int x3] d_Pages_handsOf_14 lk_Pages_37 ⟨by decide, by decide⟩ rfl (Nat.le_of_ble_eq_true rfl) (ex_O_has g X M x1 x3) (fun v2 sh2 M2 hR => ?_)
    obtain ⟨rfl, rfl, rfl⟩ := hR
    refine zs_if_eq 29 d_Pages_handsOf_17 (by decide) (fun c3 => ?_) (fun c3 => ?_)
    · replace h := h.1 (bI_0 c3)
      refine zs_iinc2 3 (x3 + 1) [1, 2, 3, 0] [(0, .ref 11), (1, .int x1), (2, .int x2), (3, .int (x3 + 1))] d_Pages_handsOf_29 rfl rfl (by decide) rfl ?_
      refine zs_goto 4 d_Pages_handsOf_32 (by decide) ?_
      exact h
    · replace h := h.2 (bI_1 c3)
      refine zs_iload_n 2 d_Pages_handsOf_20 rfl (List.mem_of_getElem? (i := 2) rfl) ?_
      refine zs_aload_n 0 d_Pages_handsOf_21 rfl (List.mem_of_getElem? (i := 0) rfl) ?_
      refine zs_get d_Pages_handsOf_22 gf_Pages_9 (sh_11 g X) rfl ?_
      refine zs_iload_n 3 d_Pages_handsOf_25 rfl (List.mem_of_getElem? (i := 3) rfl) ?_
      obtain ⟨b4, h⟩ := h
      refine zs_iald d_Pages_handsOf_26 (sh_12 g X) b4 ?_
      refine zs_ior d_Pages_handsOf_27 ?_
      refine zs_istore_n2 2 [1, 2, 0, 3] [(0, .ref 11), (1, .int x1), (2, .int (x2 ||| (M 12 (Int32.toNatClampNeg x3)))), (3, .int x3)] d_Pages_handsOf_28 rfl (by decide) rfl ?_
      refine zs_iinc2 3 (x3 + 1) [1, 2, 3, 0] [(0, .ref 11), (1, .int x1), (2, .int (x2 ||| (M 12 (Int32.toNatClampNeg x3)))), (3, .int (x3 + 1))] d_Pages_handsOf_29 rfl rfl (by decide) rfl ?_
      refine zs_goto 4 d_Pages_handsOf_32 (by decide) ?_
      exact h
theorem ex_Pages_handsOf (b : Int32) (hc : kCnt M) : zEx m_Pages_handsOf 0 0 [.ref 11, .int b] (SHP g X) M (qF g X (kHO M b) M) := by
  refine zEx_of _ (by decide) (by simp [Value.category]) (Nat.le_of_ble_eq_true rfl) rfl (v_Pages_handsOf_0 g X M b _ ?_)
  obtain ⟨hc1, hc2⟩ := kCnt_e hc
  have L : ∀ n k, k + n = kCN M → zRT m_Pages_handsOf 0 0 4 [(0, .ref 11), (1, .int b), (2, .int (kOr (fun k => if hb b (nI k) = true then M 12 k else 0) k)), (3, .int (nI k))] [] (SHP g X) M (qF g X (kHO M b) M) := by
    intro n
    induction n with
    | zero =>
      intro k hk
      have e : k = kCN M := by omega
      subst e
      refine v_Pages_handsOf_4 g X M b _ _ _ ⟨fun _ => qF_i rfl rfl, fun h => absurd (by rw [hc1]; exact nI_le (Nat.le_refl _) (by omega)) h⟩
    | succ n ih =>
      intro k hk
      have ih := ih (k + 1) (by omega)
      refine v_Pages_handsOf_4 g X M b _ _ _ ⟨fun h => absurd h (by rw [hc1]; exact nI_ge (by omega) (by omega)), fun _ => ⟨fun h => ?_, fun h => ⟨vp_in_nI (by omega) (by decide), ?_⟩⟩⟩
      · simp only [kOr, h] at ih
        rw [nI_1]
        simpa using ih
      · simp only [kOr, h] at ih
        rw [nI_1, nI_clamp (by omega)]
        simpa using ih
  exact L (kCN M) 0 (by omega)
theorem v_Pages_behind_0 (g : Nat → Option Nat) (X : List zShp) (M : zMem) (x1 x2 : Int32) (R : zEnd) (h : zRT m_Pages_behind 0 0 5 [(0, .ref 11), (1, .int x1), (2, .int x2), (3, .int 0), (4, .int 0)] [] (SHP g X) M R) : zRT m_Pages_behind 0 0 0 [(0, .ref 11), (1, .int x1), (2, .int x2)] [] (SHP g X) M R := by
  refine zs_iconst 0 d_Pages_behind_0 (by decide) ?_
  refine zs_istore_n2 3 [1, 2, 3, 0] [(0, .ref 11), (1, .int x1), (2, .int x2), (3, .int 0)] d_Pages_behind_1 rfl (by decide) rfl ?_
  refine zs_iconst 0 d_Pages_behind_2 (by decide) ?_
  refine zs_istore2 [1, 2, 3, 4, 0] [(0, .ref 11), (1, .int x1), (2, .int x2), (3, .int 0), (4, .int 0)] d_Pages_behind_3 (by decide) rfl ?_
  exact h
theorem v_Pages_behind_5 (g : Nat → Option Nat) (X : List zShp) (M : zMem) (x1 x2 x3 x4 : Int32) (R : zEnd) (h : (((M 11 5) ≤ x4) → (R (some (.int x3)) (SHP g X) M)) ∧ ((¬ (M 11 5) ≤ x4) → ((((hb x1 x4) = false) → (zRT m_Pages_behind 0 0 5 [(0, .ref 11), (1, .int x1), (2, .int x2), (3, .int x3), (4, .int (x4 + 1))] [] (SHP g X) M R)) ∧ (((hb x1 x4) = true) → ((vp_in x4 10) ∧ (((x2 = 0) → (zRT m_Pages_behind 0 0 5 [(0, .ref 11), (1, .int x1), (2, .int x2), (3, .int ((x3 ||| ((bO (M 13 (Int32.toNatClampNeg x4))) ||| (bO (M 14 (Int32.toNatClampNeg x4))))) ||| 0)), (4, .int (x4 + 1))] [] (SHP g X) M R)) ∧ ((¬ x2 = 0) → (zRT m_Pages_behind 0 0 5 [(0, .ref 11), (1, .int x1), (2, .int x2), (3, .int ((x3 ||| ((bO (M 13 (Int32.toNatClampNeg x4))) ||| (bO (M 14 (Int32.toNatClampNeg x4))))) ||| (bO (M 15 (Int32.toNatClampNeg x4))))), (4, .int (x4 + 1))] [] (SHP g X) M R)))))))) : zRT m_Pages_behind 0 0 5 [(0, .ref 11), (1, .int x1), (2, .int x2), (3, .int x3), (4, .int x4)] [] (SHP g X) M R := by
  refine zs_iload d_Pages_behind_5 (List.mem_of_getElem? (i := 4) rfl) ?_
  refine zs_aload_n 0 d_Pages_behind_7 rfl (List.mem_of_getElem? (i := 0) rfl) ?_
  refine zs_get d_Pages_behind_8 gf_Pages_33 (sh_11 g X) rfl ?_
  refine zs_icmp_ge 74 d_Pages_behind_11 (by decide) (fun c1 => ?_) (fun c1 => ?_)
  · replace h := h.1 c1
    refine zs_iload_n 3 d_Pages_behind_74 rfl (List.mem_of_getElem? (i := 3) rfl) ?_
    exact zs_iret d_Pages_behind_75 rfl h
  · replace h := h.2 c1
    refine zs_iload_n 1 d_Pages_behind_14 rfl (List.mem_of_getElem? (i := 1) rfl) ?_
    refine zs_iload d_Pages_behind_15 (List.mem_of_getElem? (i := 4) rfl) ?_
    refine zs_callSN (kc := 0) (ks := 0) (kc1 := 0) (ks1 := 0) (st := []) [.int x1, .int x4] d_Pages_behind_17 lk_Pages_37 ⟨by decide, by decide⟩ rfl (Nat.le_of_ble_eq_true rfl) (ex_O_has g X M x1 x4) (fun v2 sh2 M2 hR => ?_)
    obtain ⟨rfl, rfl, rfl⟩ := hR
    refine zs_if_eq 68 d_Pages_behind_20 (by decide) (fun c3 => ?_) (fun c3 => ?_)
    · replace h := h.1 (bI_0 c3)
      refine zs_iinc2 4 (x4 + 1) [1, 2, 3, 4, 0] [(0, .ref 11), (1, .int x1), (2, .int x2), (3, .int x3), (4, .int (x4 + 1))] d_Pages_behind_68 rfl rfl (by decide) rfl ?_
      refine zs_goto 5 d_Pages_behind_71 (by decide) ?_
      exact h
    · replace h := h.2 (bI_1 c3)
      refine zs_iload_n 3 d_Pages_behind_23 rfl (List.mem_of_getElem? (i := 3) rfl) ?_
      refine zs_aload_n 0 d_Pages_behind_24 rfl (List.mem_of_getElem? (i := 0) rfl) ?_
      refine zs_get d_Pages_behind_25 gf_Pages_15 (sh_11 g X) rfl ?_
      refine zs_iload d_Pages_behind_28 (List.mem_of_getElem? (i := 4) rfl) ?_
      obtain ⟨b4, h⟩ := h
      refine zs_iald d_Pages_behind_30 (sh_13 g X) b4 ?_
      refine zs_callS (kc := 0) (ks := 0) (kc1 := 0) (ks1 := 0) (st := [.int x3]) [.int (M 13 (Int32.toNatClampNeg x4))] d_Pages_behind_31 lk_Pages_41 ⟨by decide, by decide⟩ rfl (Nat.le_of_ble_eq_true rfl) (ex_Pages_bitOf g X M (M 13 (Int32.toNatClampNeg x4))) (fun v5 sh5 M5 hR => ?_)
      obtain ⟨rfl, rfl, rfl⟩ := hR
      refine zs_aload_n 0 d_Pages_behind_34 rfl (List.mem_of_getElem? (i := 0) rfl) ?_
      refine zs_get d_Pages_behind_35 gf_Pages_18 (sh_11 g X) rfl ?_
      refine zs_iload d_Pages_behind_38 (List.mem_of_getElem? (i := 4) rfl) ?_
      refine zs_iald d_Pages_behind_40 (sh_14 g X) b4 ?_
      refine zs_callS (kc := 0) (ks := 0) (kc1 := 0) (ks1 := 0) (st := [.int (bO (M 13 (Int32.toNatClampNeg x4))), .int x3]) [.int (M 14 (Int32.toNatClampNeg x4))] d_Pages_behind_41 lk_Pages_41 ⟨by decide, by decide⟩ rfl (Nat.le_of_ble_eq_true rfl) (ex_Pages_bitOf g X M (M 14 (Int32.toNatClampNeg x4))) (fun v6 sh6 M6 hR => ?_)
      obtain ⟨rfl, rfl, rfl⟩ := hR
      refine zs_ior d_Pages_behind_44 ?_
      refine zs_ior d_Pages_behind_45 ?_
      refine zs_istore_n2 3 [1, 2, 3, 0, 4] [(0, .ref 11), (1, .int x1), (2, .int x2), (3, .int (x3 ||| ((bO (M 13 (Int32.toNatClampNeg x4))) ||| (bO (M 14 (Int32.toNatClampNeg x4)))))), (4, .int x4)] d_Pages_behind_46 rfl (by decide) rfl ?_
      refine zs_iload_n 3 d_Pages_behind_47 rfl (List.mem_of_getElem? (i := 3) rfl) ?_
      refine zs_iload_n 2 d_Pages_behind_48 rfl (List.mem_of_getElem? (i := 2) rfl) ?_
      refine zs_if_eq 65 d_Pages_behind_49 (by decide) (fun c7 => ?_) (fun c7 => ?_)
      · replace h := h.1 c7
        refine zs_iconst 0 d_Pages_behind_65 (by decide) ?_
        refine zs_ior d_Pages_behind_66 ?_
        refine zs_istore_n2 3 [1, 2, 3, 0, 4] [(0, .ref 11), (1, .int x1), (2, .int x2), (3, .int ((x3 ||| ((bO (M 13 (Int32.toNatClampNeg x4))) ||| (bO (M 14 (Int32.toNatClampNeg x4))))) ||| 0)), (4, .int x4)] d_Pages_behind_67 rfl (by decide) rfl ?_
        refine zs_iinc2 4 (x4 + 1) [1, 2, 3, 4, 0] [(0, .ref 11), (1, .int x1), (2, .int x2), (3, .int ((x3 ||| ((bO (M 13 (Int32.toNatClampNeg x4))) ||| (bO (M 14 (Int32.toNatClampNeg x4))))) ||| 0)), (4, .int (x4 + 1))] d_Pages_behind_68 rfl rfl (by decide) rfl ?_
        refine zs_goto 5 d_Pages_behind_71 (by decide) ?_
        exact h
      · replace h := h.2 c7
        refine zs_aload_n 0 d_Pages_behind_52 rfl (List.mem_of_getElem? (i := 0) rfl) ?_
        refine zs_get d_Pages_behind_53 gf_Pages_21 (sh_11 g X) rfl ?_
        refine zs_iload d_Pages_behind_56 (List.mem_of_getElem? (i := 4) rfl) ?_
        refine zs_iald d_Pages_behind_58 (sh_15 g X) b4 ?_
        refine zs_callS (kc := 0) (ks := 0) (kc1 := 0) (ks1 := 0) (st := [.int (x3 ||| ((bO (M 13 (Int32.toNatClampNeg x4))) ||| (bO (M 14 (Int32.toNatClampNeg x4)))))]) [.int (M 15 (Int32.toNatClampNeg x4))] d_Pages_behind_59 lk_Pages_41 ⟨by decide, by decide⟩ rfl (Nat.le_of_ble_eq_true rfl) (ex_Pages_bitOf g X M (M 15 (Int32.toNatClampNeg x4))) (fun v8 sh8 M8 hR => ?_)
        obtain ⟨rfl, rfl, rfl⟩ := hR
        refine zs_goto 66 d_Pages_behind_62 (by decide) ?_
        refine zs_ior d_Pages_behind_66 ?_
        refine zs_istore_n2 3 [1, 2, 3, 0, 4] [(0, .ref 11), (1, .int x1), (2, .int x2), (3, .int ((x3 ||| ((bO (M 13 (Int32.toNatClampNeg x4))) ||| (bO (M 14 (Int32.toNatClampNeg x4))))) ||| (bO (M 15 (Int32.toNatClampNeg x4))))), (4, .int x4)] d_Pages_behind_67 rfl (by decide) rfl ?_
        refine zs_iinc2 4 (x4 + 1) [1, 2, 3, 4, 0] [(0, .ref 11), (1, .int x1), (2, .int x2), (3, .int ((x3 ||| ((bO (M 13 (Int32.toNatClampNeg x4))) ||| (bO (M 14 (Int32.toNatClampNeg x4))))) ||| (bO (M 15 (Int32.toNatClampNeg x4))))), (4, .int (x4 + 1))] d_Pages_behind_68 rfl rfl (by decide) rfl ?_
        refine zs_goto 5 d_Pages_behind_71 (by decide) ?_
        exact h
theorem ex_Pages_behind (b w : Int32) (hc : kCnt M) : zEx m_Pages_behind 0 0 [.ref 11, .int b, .int w] (SHP g X) M (qF g X (kBh M b w) M) := by
  refine zEx_of _ (by decide) (by simp [Value.category]) (Nat.le_of_ble_eq_true rfl) rfl (v_Pages_behind_0 g X M b w _ ?_)
  obtain ⟨hc1, hc2⟩ := kCnt_e hc
  have L : ∀ n k, k + n = kCN M → zRT m_Pages_behind 0 0 5 [(0, .ref 11), (1, .int b), (2, .int w), (3, .int (kOr (fun k => if hb b (nI k) = true then (bO (M 13 k) ||| bO (M 14 k)) ||| (if w = 0 then 0 else bO (M 15 k)) else 0) k)), (4, .int (nI k))] [] (SHP g X) M (qF g X (kBh M b w) M) := by
    intro n
    induction n with
    | zero =>
      intro k hk
      have e : k = kCN M := by omega
      subst e
      refine v_Pages_behind_5 g X M b w _ _ _ ⟨fun _ => qF_i rfl rfl, fun h => absurd (by rw [hc1]; exact nI_le (Nat.le_refl _) (by omega)) h⟩
    | succ n ih =>
      intro k hk
      have ih := ih (k + 1) (by omega)
      refine v_Pages_behind_5 g X M b w _ _ _ ⟨fun h => absurd h (by rw [hc1]; exact nI_ge (by omega) (by omega)), fun _ => ⟨fun h => ?_, fun h => ⟨vp_in_nI (by omega) (by decide), fun h2 => ?_, fun h2 => ?_⟩⟩⟩
      · simp only [kOr, h] at ih
        rw [nI_1]
        simpa using ih
      · simp only [kOr, h, h2] at ih ⊢
        rw [nI_1, nI_clamp (by omega), Int32.or_assoc]
        simpa using ih
      · simp only [kOr, h, if_neg h2] at ih ⊢
        rw [nI_1, nI_clamp (by omega), Int32.or_assoc]
        simpa using ih
  exact L (kCN M) 0 (by omega)
theorem v_Town_couple_0 (g : Nat → Option Nat) (X : List zShp) (M : zMem) (x1 : Int32) (R : zEnd) (h : (vp_in x1 6) ∧ (((¬ (M 17 (Int32.toNatClampNeg x1)) = (-6)) → (R (some (.int (((1 : Int32) <<< (x1 &&& 31)) ||| ((1 : Int32) <<< ((M 17 (Int32.toNatClampNeg x1)) &&& 31))))) (SHP g X) M)) ∧ (((M 17 (Int32.toNatClampNeg x1)) = (-6)) → (R (some (.int (((1 : Int32) <<< (x1 &&& 31)) ||| 0))) (SHP g X) M)))) : zRT m_Town_couple 0 0 0 [(0, .ref 10), (1, .int x1)] [] (SHP g X) M R := by
  refine zs_aload_n 0 d_Town_couple_0 rfl (List.mem_of_getElem? (i := 0) rfl) ?_
  refine zs_get d_Town_couple_1 gf_Town_18 (sh_10 g X) rfl ?_
  refine zs_iload_n 1 d_Town_couple_4 rfl (List.mem_of_getElem? (i := 1) rfl) ?_
  obtain ⟨b1, h⟩ := h
  refine zs_iald d_Town_couple_5 (sh_17 g X) b1 ?_
  refine zs_istore_n2 2 [1, 2, 0] [(0, .ref 10), (1, .int x1), (2, .int (M 17 (Int32.toNatClampNeg x1)))] d_Town_couple_6 rfl (by decide) rfl ?_
  refine zs_iconst 1 d_Town_couple_7 (by decide) ?_
  refine zs_iload_n 1 d_Town_couple_8 rfl (List.mem_of_getElem? (i := 1) rfl) ?_
  refine zs_ishl d_Town_couple_9 ?_
  refine zs_iload_n 2 d_Town_couple_10 rfl (List.mem_of_getElem? (i := 2) rfl) ?_
  refine zs_bipush (-6) d_Town_couple_11 (by decide) ?_
  refine zs_icmp_ne 20 d_Town_couple_13 (by decide) (fun c2 => ?_) (fun c2 => ?_)
  · replace h := h.1 c2
    refine zs_iconst 1 d_Town_couple_20 (by decide) ?_
    refine zs_iload_n 2 d_Town_couple_21 rfl (List.mem_of_getElem? (i := 2) rfl) ?_
    refine zs_ishl d_Town_couple_22 ?_
    refine zs_ior d_Town_couple_23 ?_
    exact zs_iret d_Town_couple_24 rfl h
  · replace h := h.2 c2
    refine zs_iconst 0 d_Town_couple_16 (by decide) ?_
    refine zs_goto 23 d_Town_couple_17 (by decide) ?_
    refine zs_ior d_Town_couple_23 ?_
    exact zs_iret d_Town_couple_24 rfl h
theorem ex_Town_couple (m : Int32) (h : vp_in m 6) : zEx m_Town_couple 0 0 [.ref 10, .int m] (SHP g X) M (qF g X (kCpl M m) M) := by
  refine zEx_of _ (by decide) (by simp [Value.category]) (Nat.le_of_ble_eq_true rfl) rfl (v_Town_couple_0 g X M m _ ⟨h, fun h => qF_i ?_ rfl, fun h => qF_i ?_ rfl⟩) <;> simp [kCpl, h]
theorem v_Town_withPartners_0 (g : Nat → Option Nat) (X : List zShp) (M : zMem) (x1 : Int32) (R : zEnd) (h : zRT m_Town_withPartners 0 0 4 [(0, .ref 10), (1, .int x1), (2, .int 0), (3, .int 0)] [] (SHP g X) M R) : zRT m_Town_withPartners 0 0 0 [(0, .ref 10), (1, .int x1)] [] (SHP g X) M R := by
  refine zs_iconst 0 d_Town_withPartners_0 (by decide) ?_
  refine zs_istore_n2 2 [1, 2, 0] [(0, .ref 10), (1, .int x1), (2, .int 0)] d_Town_withPartners_1 rfl (by decide) rfl ?_
  refine zs_iconst 0 d_Town_withPartners_2 (by decide) ?_
  refine zs_istore_n2 3 [1, 2, 3, 0] [(0, .ref 10), (1, .int x1), (2, .int 0), (3, .int 0)] d_Town_withPartners_3 rfl (by decide) rfl ?_
  exact h
theorem v_Town_withPartners_4 (g : Nat → Option Nat) (X : List zShp) (M : zMem) (x1 x2 x3 : Int32) (R : zEnd) (h : ((6 ≤ x3) → (R (some (.int x2)) (SHP g X) M)) ∧ ((¬ 6 ≤ x3) → ((((hb x1 x3) = false) → (zRT m_Town_withPartners 0 0 4 [(0, .ref 10), (1, .int x1), (2, .int x2), (3, .int (x3 + 1))] [] (SHP g X) M R)) ∧ (((hb x1 x3) = true) → ((vp_in x3 6) ∧ (zRT m_Town_withPartners 0 0 4 [(0, .ref 10), (1, .int x1), (2, .int (x2 ||| (kCpl M x3))), (3, .int (x3 + 1))] [] (SHP g X) M R)))))) : zRT m_Town_withPartners 0 0 4 [(0, .ref 10), (1, .int x1), (2, .int x2), (3, .int x3)] [] (SHP g X) M R := by
  refine zs_iload_n 3 d_Town_withPartners_4 rfl (List.mem_of_getElem? (i := 3) rfl) ?_
  refine zs_bipush 6 d_Town_withPartners_5 (by decide) ?_
  refine zs_icmp_ge 32 d_Town_withPartners_7 (by decide) (fun c1 => ?_) (fun c1 => ?_)
  · replace h := h.1 c1
    refine zs_iload_n 2 d_Town_withPartners_32 rfl (List.mem_of_getElem? (i := 2) rfl) ?_
    exact zs_iret d_Town_withPartners_33 rfl h
  · replace h := h.2 c1
    refine zs_iload_n 1 d_Town_withPartners_10 rfl (List.mem_of_getElem? (i := 1) rfl) ?_
    refine zs_iload_n 3 d_Town_withPartners_11 rfl (List.mem_of_getElem? (i := 3) rfl) ?_
    refine zs_callSN (kc := 0) (ks := 0) (kc1 := 0) (ks1 := 0) (st := []) [.int x1, .int x3] d_Town_withPartners_12 lk_Town_54 ⟨by decide, by decide⟩ rfl (Nat.le_of_ble_eq_true rfl) (ex_O_has g X M x1 x3) (fun v2 sh2 M2 hR => ?_)
    obtain ⟨rfl, rfl, rfl⟩ := hR
    refine zs_if_eq 26 d_Town_withPartners_15 (by decide) (fun c3 => ?_) (fun c3 => ?_)
    · replace h := h.1 (bI_0 c3)
      refine zs_iinc2 3 (x3 + 1) [1, 2, 3, 0] [(0, .ref 10), (1, .int x1), (2, .int x2), (3, .int (x3 + 1))] d_Town_withPartners_26 rfl rfl (by decide) rfl ?_
      refine zs_goto 4 d_Town_withPartners_29 (by decide) ?_
      exact h
    · replace h := h.2 (bI_1 c3)
      refine zs_iload_n 2 d_Town_withPartners_18 rfl (List.mem_of_getElem? (i := 2) rfl) ?_
      refine zs_aload_n 0 d_Town_withPartners_19 rfl (List.mem_of_getElem? (i := 0) rfl) ?_
      refine zs_iload_n 3 d_Town_withPartners_20 rfl (List.mem_of_getElem? (i := 3) rfl) ?_
      obtain ⟨p4, h⟩ := h
      refine zs_callV (kc := 0) (ks := 0) (kc1 := 0) (ks1 := 0) (st := [.int x2]) [.int x3] d_Town_withPartners_21 lk_Town_58 ⟨by decide, by decide⟩ rfl (sh_10 g X) rfl (Nat.le_of_ble_eq_true rfl) (ex_Town_couple g X M x3 p4) (fun v4 sh4 M4 hR => ?_)
      obtain ⟨rfl, rfl, rfl⟩ := hR
      refine zs_ior d_Town_withPartners_24 ?_
      refine zs_istore_n2 2 [1, 2, 0, 3] [(0, .ref 10), (1, .int x1), (2, .int (x2 ||| (kCpl M x3))), (3, .int x3)] d_Town_withPartners_25 rfl (by decide) rfl ?_
      refine zs_iinc2 3 (x3 + 1) [1, 2, 3, 0] [(0, .ref 10), (1, .int x1), (2, .int (x2 ||| (kCpl M x3))), (3, .int (x3 + 1))] d_Town_withPartners_26 rfl rfl (by decide) rfl ?_
      refine zs_goto 4 d_Town_withPartners_29 (by decide) ?_
      exact h
theorem ex_Town_withPartners (b : Int32) : zEx m_Town_withPartners 0 0 [.ref 10, .int b] (SHP g X) M (qF g X (kWP M b) M) := by
  refine zEx_of _ (by decide) (by simp [Value.category]) (Nat.le_of_ble_eq_true rfl) rfl (v_Town_withPartners_0 g X M b _ ?_)
  have L : ∀ n k, k + n = 6 → zRT m_Town_withPartners 0 0 4 [(0, .ref 10), (1, .int b), (2, .int (kOr (fun k => if hb b (nI k) = true then kCpl M (nI k) else 0) k)), (3, .int (nI k))] [] (SHP g X) M (qF g X (kWP M b) M) := by
    intro n
    induction n with
    | zero =>
      intro k hk
      have e : k = 6 := by omega
      subst e
      refine v_Town_withPartners_4 g X M b _ _ _ ⟨fun _ => qF_i rfl rfl, fun h => absurd (nI_le (a := 6) (Nat.le_refl _) (by omega)) h⟩
    | succ n ih =>
      intro k hk
      have ih := ih (k + 1) (by omega)
      refine v_Town_withPartners_4 g X M b _ _ _ ⟨fun h => absurd h (nI_ge (b := 6) (by omega) (by omega)), fun _ => ⟨fun h => ?_, fun h => ⟨vp_in_nI (by omega) (by decide), ?_⟩⟩⟩
      · simp only [kOr, h] at ih
        rw [nI_1]
        simpa using ih
      · simp only [kOr, h] at ih
        rw [nI_1]
        simpa using ih
  exact L 6 0 rfl
theorem v_Town_reach_0 (g : Nat → Option Nat) (X : List zShp) (M : zMem) (x1 : Int32) (R : zEnd) (h : zRT m_Town_reach 0 0 9 [(0, .ref 10), (2, .int 0), (3, .int ((1 : Int32) <<< (x1 &&& 31))), (4, .int 0)] [] (SHP g X) M R) : zRT m_Town_reach 0 0 0 [(0, .ref 10), (1, .int x1)] [] (SHP g X) M R := by
  refine zs_iconst 0 d_Town_reach_0 (by decide) ?_
  refine zs_istore_n2 2 [1, 2, 0] [(0, .ref 10), (1, .int x1), (2, .int 0)] d_Town_reach_1 rfl (by decide) rfl ?_
  refine zs_iconst 1 d_Town_reach_2 (by decide) ?_
  refine zs_iload_n 1 d_Town_reach_3 rfl (List.mem_of_getElem? (i := 1) rfl) ?_
  refine zs_ishl d_Town_reach_4 ?_
  refine zs_istore_n2 3 [1, 2, 3, 0] [(0, .ref 10), (1, .int x1), (2, .int 0), (3, .int ((1 : Int32) <<< (x1 &&& 31)))] d_Town_reach_5 rfl (by decide) rfl ?_
  refine zs_iconst 0 d_Town_reach_6 (by decide) ?_
  refine zs_istore2 [1, 2, 3, 4, 0] [(0, .ref 10), (1, .int x1), (2, .int 0), (3, .int ((1 : Int32) <<< (x1 &&& 31))), (4, .int 0)] d_Town_reach_7 (by decide) rfl ?_
  exact zRT_sub [0, 2, 3, 4] rfl h
theorem v_Town_reach_9 (g : Nat → Option Nat) (X : List zShp) (M : zMem) (x2 x3 x4 : Int32) (R : zEnd) (h : (((M 10 6) < x4) → (R (some (.int x2)) (SHP g X) M)) ∧ ((¬ (M 10 6) < x4) → (((x3 = 0) → (R (some (.int x2)) (SHP g X) M)) ∧ ((¬ x3 = 0) → (((¬ (M 10 7) = 1) → ((kCnt M) ∧ (zRT m_Town_reach 0 0 9 [(0, .ref 10), (2, .int (x2 ||| x3)), (3, .int (kBh M x3 0)), (4, .int (x4 + 1))] [] (SHP g X) M R))) ∧ (((M 10 7) = 1) → ((kCnt M) ∧ (zRT m_Town_reach 0 0 9 [(0, .ref 10), (2, .int (x2 ||| x3)), (3, .int (kBh M x3 1)), (4, .int (x4 + 1))] [] (SHP g X) M R)))))))) : zRT m_Town_reach 0 0 9 [(0, .ref 10), (2, .int x2), (3, .int x3), (4, .int x4)] [] (SHP g X) M R := by
  refine zs_iload d_Town_reach_9 (List.mem_of_getElem? (i := 3) rfl) ?_
  refine zs_aload_n 0 d_Town_reach_11 rfl (List.mem_of_getElem? (i := 0) rfl) ?_
  refine zs_get d_Town_reach_12 gf_Town_31 (sh_10 g X) rfl ?_
  refine zs_icmp_gt 54 d_Town_reach_15 (by decide) (fun c1 => ?_) (fun c1 => ?_)
  · replace h := h.1 c1
    refine zs_iload_n 2 d_Town_reach_54 rfl (List.mem_of_getElem? (i := 1) rfl) ?_
    exact zs_iret d_Town_reach_55 rfl h
  · replace h := h.2 c1
    refine zs_iload_n 3 d_Town_reach_18 rfl (List.mem_of_getElem? (i := 2) rfl) ?_
    refine zs_if_eq 54 d_Town_reach_19 (by decide) (fun c2 => ?_) (fun c2 => ?_)
    · replace h := h.1 c2
      refine zs_iload_n 2 d_Town_reach_54 rfl (List.mem_of_getElem? (i := 1) rfl) ?_
      exact zs_iret d_Town_reach_55 rfl h
    · replace h := h.2 c2
      refine zs_iload_n 2 d_Town_reach_22 rfl (List.mem_of_getElem? (i := 1) rfl) ?_
      refine zs_iload_n 3 d_Town_reach_23 rfl (List.mem_of_getElem? (i := 2) rfl) ?_
      refine zs_ior d_Town_reach_24 ?_
      refine zs_istore_n2 2 [1, 0, 2, 3] [(0, .ref 10), (2, .int (x2 ||| x3)), (3, .int x3), (4, .int x4)] d_Town_reach_25 rfl (by decide) rfl ?_
      refine zs_aload_n 0 d_Town_reach_26 rfl (List.mem_of_getElem? (i := 0) rfl) ?_
      refine zs_get d_Town_reach_27 gf_Town_12 (sh_10 g X) rfl ?_
      refine zs_iload_n 3 d_Town_reach_30 rfl (List.mem_of_getElem? (i := 2) rfl) ?_
      refine zs_aload_n 0 d_Town_reach_31 rfl (List.mem_of_getElem? (i := 0) rfl) ?_
      refine zs_get d_Town_reach_32 gf_Town_51 (sh_10 g X) rfl ?_
      refine zs_iconst 1 d_Town_reach_35 (by decide) ?_
      refine zs_icmp_ne 43 d_Town_reach_36 (by decide) (fun c3 => ?_) (fun c3 => ?_)
      · replace h := h.1 c3
        refine zs_iconst 0 d_Town_reach_43 (by decide) ?_
        obtain ⟨p4, h⟩ := h
        refine zs_callV (kc := 0) (ks := 0) (kc1 := 0) (ks1 := 0) (st := []) [.int x3, .int 0] d_Town_reach_44 lk_Town_62 ⟨by decide, by decide⟩ rfl (sh_11 g X) rfl (Nat.le_of_ble_eq_true rfl) (ex_Pages_behind g X M x3 0 p4) (fun v4 sh4 M4 hR => ?_)
        obtain ⟨rfl, rfl, rfl⟩ := hR
        refine zs_istore_n2 3 [1, 2, 0, 3] [(0, .ref 10), (2, .int (x2 ||| x3)), (3, .int (kBh M x3 0)), (4, .int x4)] d_Town_reach_47 rfl (by decide) rfl ?_
        refine zs_iinc2 3 (x4 + 1) [1, 2, 3, 0] [(0, .ref 10), (2, .int (x2 ||| x3)), (3, .int (kBh M x3 0)), (4, .int (x4 + 1))] d_Town_reach_48 rfl rfl (by decide) rfl ?_
        refine zs_goto 9 d_Town_reach_51 (by decide) ?_
        exact h
      · replace h := h.2 c3
        refine zs_iconst 1 d_Town_reach_39 (by decide) ?_
        refine zs_goto 44 d_Town_reach_40 (by decide) ?_
        obtain ⟨p5, h⟩ := h
        refine zs_callV (kc := 0) (ks := 0) (kc1 := 0) (ks1 := 0) (st := []) [.int x3, .int 1] d_Town_reach_44 lk_Town_62 ⟨by decide, by decide⟩ rfl (sh_11 g X) rfl (Nat.le_of_ble_eq_true rfl) (ex_Pages_behind g X M x3 1 p5) (fun v5 sh5 M5 hR => ?_)
        obtain ⟨rfl, rfl, rfl⟩ := hR
        refine zs_istore_n2 3 [1, 2, 0, 3] [(0, .ref 10), (2, .int (x2 ||| x3)), (3, .int (kBh M x3 1)), (4, .int x4)] d_Town_reach_47 rfl (by decide) rfl ?_
        refine zs_iinc2 3 (x4 + 1) [1, 2, 3, 0] [(0, .ref 10), (2, .int (x2 ||| x3)), (3, .int (kBh M x3 1)), (4, .int (x4 + 1))] d_Town_reach_48 rfl rfl (by decide) rfl ?_
        refine zs_goto 9 d_Town_reach_51 (by decide) ?_
        exact h
theorem ex_Town_reach (t : Int32) (hh : kCnt M ∧ kDpt M) : zEx m_Town_reach 0 0 [.ref 10, .int t] (SHP g X) M (qF g X (kRch M t) M) := by
  refine zEx_of _ (by decide) (by simp [Value.category]) (Nat.le_of_ble_eq_true rfl) rfl (v_Town_reach_0 g X M t _ ?_)
  obtain ⟨hd1, hd2⟩ := kDpt_e hh.2
  have L : ∀ n k all layer, k + n = kDN M + 1 → zRT m_Town_reach 0 0 9 [(0, .ref 10), (2, .int all), (3, .int layer), (4, .int (nI k))] [] (SHP g X) M (qF g X (kRcn M n all layer) M) := by
    intro n
    induction n with
    | zero =>
      intro k all layer hk
      refine v_Town_reach_9 g X M all layer _ _ ⟨fun _ => qF_i rfl rfl, fun h => absurd (by rw [hd1]; exact nI_lt (by omega) (by omega)) h⟩
    | succ n ih =>
      intro k all layer hk
      refine v_Town_reach_9 g X M all layer _ _ ⟨fun h => absurd h (by rw [hd1]; exact nI_nlt (by omega) (by omega)), fun _ => ⟨fun h => qF_i (by simp [kRcn, h]) rfl, fun h => ⟨fun h2 => ⟨hh.1, ?_⟩, fun h2 => ⟨hh.1, ?_⟩⟩⟩⟩
      · rw [nI_1]
        have := ih (k + 1) (all ||| layer) (kBh M layer 0) (by omega)
        simpa only [kRcn, if_neg h, kTl, if_neg h2] using this
      · rw [nI_1]
        have := ih (k + 1) (all ||| layer) (kBh M layer 1) (by omega)
        simpa only [kRcn, if_neg h, kTl, if_pos h2] using this
  exact L _ 0 _ _ (by omega)
theorem v_Town_touchers_0 (g : Nat → Option Nat) (X : List zShp) (M : zMem) (x1 : Int32) (R : zEnd) (h : (kCnt M ∧ kDpt M) ∧ ((kCnt M) ∧ (R (some (.int (kHO M (kRch M x1)))) (SHP g X) M))) : zRT m_Town_touchers 0 0 0 [(0, .ref 10), (1, .int x1)] [] (SHP g X) M R := by
  refine zs_aload_n 0 d_Town_touchers_0 rfl (List.mem_of_getElem? (i := 0) rfl) ?_
  refine zs_get d_Town_touchers_1 gf_Town_12 (sh_10 g X) rfl ?_
  refine zs_aload_n 0 d_Town_touchers_4 rfl (List.mem_of_getElem? (i := 0) rfl) ?_
  refine zs_iload_n 1 d_Town_touchers_5 rfl (List.mem_of_getElem? (i := 1) rfl) ?_
  obtain ⟨p1, h⟩ := h
  refine zs_callV (kc := 0) (ks := 0) (kc1 := 0) (ks1 := 0) (st := [.ref 11]) [.int x1] d_Town_touchers_6 lk_Town_66 ⟨by decide, by decide⟩ rfl (sh_10 g X) rfl (Nat.le_of_ble_eq_true rfl) (ex_Town_reach g X M x1 p1) (fun v1 sh1 M1 hR => ?_)
  obtain ⟨rfl, rfl, rfl⟩ := hR
  obtain ⟨p2, h⟩ := h
  refine zs_callV (kc := 0) (ks := 0) (kc1 := 0) (ks1 := 0) (st := []) [.int (kRch M x1)] d_Town_touchers_9 lk_Town_69 ⟨by decide, by decide⟩ rfl (sh_11 g X) rfl (Nat.le_of_ble_eq_true rfl) (ex_Pages_handsOf g X M (kRch M x1) p2) (fun v2 sh2 M2 hR => ?_)
  obtain ⟨rfl, rfl, rfl⟩ := hR
  exact zs_iret d_Town_touchers_12 rfl h
theorem ex_Town_touchers (t : Int32) (hh : kCnt M ∧ kDpt M) : zEx m_Town_touchers 0 0 [.ref 10, .int t] (SHP g X) M (qF g X (kTch M t) M) :=
  zEx_of _ (by decide) (by simp [Value.category]) (Nat.le_of_ble_eq_true rfl) rfl (v_Town_touchers_0 g X M t _ ⟨hh, hh.1, qF_i rfl rfl⟩)
theorem v_Town_barredMen_0 (g : Nat → Option Nat) (X : List zShp) (M : zMem) (x1 : Int32) (R : zEnd) (h : (kCnt M ∧ kDpt M) ∧ (R (some (.int (kWP M (kTch M x1)))) (SHP g X) M)) : zRT m_Town_barredMen 0 0 0 [(0, .ref 10), (1, .int x1)] [] (SHP g X) M R := by
  refine zs_aload_n 0 d_Town_barredMen_0 rfl (List.mem_of_getElem? (i := 0) rfl) ?_
  refine zs_aload_n 0 d_Town_barredMen_1 rfl (List.mem_of_getElem? (i := 0) rfl) ?_
  refine zs_iload_n 1 d_Town_barredMen_2 rfl (List.mem_of_getElem? (i := 1) rfl) ?_
  obtain ⟨p1, h⟩ := h
  refine zs_callV (kc := 0) (ks := 0) (kc1 := 0) (ks1 := 0) (st := [.ref 10]) [.int x1] d_Town_barredMen_3 lk_Town_72 ⟨by decide, by decide⟩ rfl (sh_10 g X) rfl (Nat.le_of_ble_eq_true rfl) (ex_Town_touchers g X M x1 p1) (fun v1 sh1 M1 hR => ?_)
  obtain ⟨rfl, rfl, rfl⟩ := hR
  refine zs_callV (kc := 0) (ks := 0) (kc1 := 0) (ks1 := 0) (st := []) [.int (kTch M x1)] d_Town_barredMen_6 lk_Town_75 ⟨by decide, by decide⟩ rfl (sh_10 g X) rfl (Nat.le_of_ble_eq_true rfl) (ex_Town_withPartners g X M (kTch M x1)) (fun v2 sh2 M2 hR => ?_)
  obtain ⟨rfl, rfl, rfl⟩ := hR
  exact zs_iret d_Town_barredMen_9 rfl h
theorem ex_Town_barredMen (t : Int32) (hh : kCnt M ∧ kDpt M) : zEx m_Town_barredMen 0 0 [.ref 10, .int t] (SHP g X) M (qF g X (kWP M (kTch M t)) M) :=
  zEx_of _ (by decide) (by simp [Value.category]) (Nat.le_of_ble_eq_true rfl) rfl (v_Town_barredMen_0 g X M t _ ⟨hh, qF_i rfl rfl⟩)
theorem v_Town_lawfulThings_0 (g : Nat → Option Nat) (X : List zShp) (M : zMem) (x1 : Int32) (R : zEnd) (h : zRT m_Town_lawfulThings 0 0 4 [(0, .ref 10), (1, .int x1), (2, .int 0), (3, .int 0)] [] (SHP g X) M R) : zRT m_Town_lawfulThings 0 0 0 [(0, .ref 10), (1, .int x1)] [] (SHP g X) M R := by
  refine zs_iconst 0 d_Town_lawfulThings_0 (by decide) ?_
  refine zs_istore_n2 2 [1, 2, 0] [(0, .ref 10), (1, .int x1), (2, .int 0)] d_Town_lawfulThings_1 rfl (by decide) rfl ?_
  refine zs_iconst 0 d_Town_lawfulThings_2 (by decide) ?_
  refine zs_istore_n2 3 [1, 2, 3, 0] [(0, .ref 10), (1, .int x1), (2, .int 0), (3, .int 0)] d_Town_lawfulThings_3 rfl (by decide) rfl ?_
  exact h
theorem v_Town_lawfulThings_4 (g : Nat → Option Nat) (X : List zShp) (M : zMem) (x1 x2 x3 : Int32) (R : zEnd) (h : (((M 11 5) ≤ x3) → (R (some (.int x2)) (SHP g X) M)) ∧ ((¬ (M 11 5) ≤ x3) → ((kCnt M ∧ kDpt M) ∧ ((vp_in x1 6) ∧ (((¬ ((kTch M x3) &&& (kCpl M x1)) = 0) → (zRT m_Town_lawfulThings 0 0 4 [(0, .ref 10), (1, .int x1), (2, .int x2), (3, .int (x3 + 1))] [] (SHP g X) M R)) ∧ ((((kTch M x3) &&& (kCpl M x1)) = 0) → (zRT m_Town_lawfulThings 0 0 4 [(0, .ref 10), (1, .int x1), (2, .int (x2 ||| ((1 : Int32) <<< (x3 &&& 31)))), (3, .int (x3 + 1))] [] (SHP g X) M R))))))) : zRT m_Town_lawfulThings 0 0 4 [(0, .ref 10), (1, .int x1), (2, .int x2), (3, .int x3)] [] (SHP g X) M R := by
  refine zs_iload_n 3 d_Town_lawfulThings_4 rfl (List.mem_of_getElem? (i := 3) rfl) ?_
  refine zs_aload_n 0 d_Town_lawfulThings_5 rfl (List.mem_of_getElem? (i := 0) rfl) ?_
  refine zs_get d_Town_lawfulThings_6 gf_Town_12 (sh_10 g X) rfl ?_
  refine zs_get d_Town_lawfulThings_9 gf_Town_78 (sh_11 g X) rfl ?_
  refine zs_icmp_ge 41 d_Town_lawfulThings_12 (by decide) (fun c1 => ?_) (fun c1 => ?_)
  · replace h := h.1 c1
    refine zs_iload_n 2 d_Town_lawfulThings_41 rfl (List.mem_of_getElem? (i := 2) rfl) ?_
    exact zs_iret d_Town_lawfulThings_42 rfl h
  · replace h := h.2 c1
    refine zs_aload_n 0 d_Town_lawfulThings_15 rfl (List.mem_of_getElem? (i := 0) rfl) ?_
    refine zs_iload_n 3 d_Town_lawfulThings_16 rfl (List.mem_of_getElem? (i := 3) rfl) ?_
    obtain ⟨p2, h⟩ := h
    refine zs_callV (kc := 0) (ks := 0) (kc1 := 0) (ks1 := 0) (st := []) [.int x3] d_Town_lawfulThings_17 lk_Town_72 ⟨by decide, by decide⟩ rfl (sh_10 g X) rfl (Nat.le_of_ble_eq_true rfl) (ex_Town_touchers g X M x3 p2) (fun v2 sh2 M2 hR => ?_)
    obtain ⟨rfl, rfl, rfl⟩ := hR
    refine zs_aload_n 0 d_Town_lawfulThings_20 rfl (List.mem_of_getElem? (i := 0) rfl) ?_
    refine zs_iload_n 1 d_Town_lawfulThings_21 rfl (List.mem_of_getElem? (i := 1) rfl) ?_
    obtain ⟨p3, h⟩ := h
    refine zs_callV (kc := 0) (ks := 0) (kc1 := 0) (ks1 := 0) (st := [.int (kTch M x3)]) [.int x1] d_Town_lawfulThings_22 lk_Town_58 ⟨by decide, by decide⟩ rfl (sh_10 g X) rfl (Nat.le_of_ble_eq_true rfl) (ex_Town_couple g X M x1 p3) (fun v3 sh3 M3 hR => ?_)
    obtain ⟨rfl, rfl, rfl⟩ := hR
    refine zs_iand d_Town_lawfulThings_25 ?_
    refine zs_if_ne 35 d_Town_lawfulThings_26 (by decide) (fun c4 => ?_) (fun c4 => ?_)
    · replace h := h.1 c4
      refine zs_iinc2 3 (x3 + 1) [1, 2, 3, 0] [(0, .ref 10), (1, .int x1), (2, .int x2), (3, .int (x3 + 1))] d_Town_lawfulThings_35 rfl rfl (by decide) rfl ?_
      refine zs_goto 4 d_Town_lawfulThings_38 (by decide) ?_
      exact h
    · replace h := h.2 c4
      refine zs_iload_n 2 d_Town_lawfulThings_29 rfl (List.mem_of_getElem? (i := 2) rfl) ?_
      refine zs_iconst 1 d_Town_lawfulThings_30 (by decide) ?_
      refine zs_iload_n 3 d_Town_lawfulThings_31 rfl (List.mem_of_getElem? (i := 3) rfl) ?_
      refine zs_ishl d_Town_lawfulThings_32 ?_
      refine zs_ior d_Town_lawfulThings_33 ?_
      refine zs_istore_n2 2 [1, 2, 0, 3] [(0, .ref 10), (1, .int x1), (2, .int (x2 ||| ((1 : Int32) <<< (x3 &&& 31)))), (3, .int x3)] d_Town_lawfulThings_34 rfl (by decide) rfl ?_
      refine zs_iinc2 3 (x3 + 1) [1, 2, 3, 0] [(0, .ref 10), (1, .int x1), (2, .int (x2 ||| ((1 : Int32) <<< (x3 &&& 31)))), (3, .int (x3 + 1))] d_Town_lawfulThings_35 rfl rfl (by decide) rfl ?_
      refine zs_goto 4 d_Town_lawfulThings_38 (by decide) ?_
      exact h
theorem ex_Town_lawfulThings (m : Int32) (hh : kCnt M ∧ kDpt M ∧ vp_in m 6) : zEx m_Town_lawfulThings 0 0 [.ref 10, .int m] (SHP g X) M (qF g X (kLwf M m) M) := by
  refine zEx_of _ (by decide) (by simp [Value.category]) (Nat.le_of_ble_eq_true rfl) rfl (v_Town_lawfulThings_0 g X M m _ ?_)
  obtain ⟨hc1, hc2⟩ := kCnt_e hh.1
  have L : ∀ n k, k + n = kCN M → zRT m_Town_lawfulThings 0 0 4 [(0, .ref 10), (1, .int m), (2, .int (kOr (fun k => if kTch M (nI k) &&& kCpl M m = 0 then 1 <<< (nI k &&& 31) else 0) k)), (3, .int (nI k))] [] (SHP g X) M (qF g X (kLwf M m) M) := by
    intro n
    induction n with
    | zero =>
      intro k hk
      have e : k = kCN M := by omega
      subst e
      refine v_Town_lawfulThings_4 g X M m _ _ _ ⟨fun _ => qF_i rfl rfl, fun h => absurd (by rw [hc1]; exact nI_le (Nat.le_refl _) (by omega)) h⟩
    | succ n ih =>
      intro k hk
      have ih := ih (k + 1) (by omega)
      refine v_Town_lawfulThings_4 g X M m _ _ _ ⟨fun h => absurd h (by rw [hc1]; exact nI_ge (by omega) (by omega)), fun _ => ⟨⟨hh.1, hh.2.1⟩, hh.2.2, fun h => ?_, fun h => ?_⟩⟩
      · simp only [kOr, if_neg h] at ih
        rw [nI_1]
        simpa using ih
      · simp only [kOr, if_pos h] at ih
        rw [nI_1]
        simpa using ih
  exact L (kCN M) 0 (by omega)
theorem v_Town_taintOf_0 (g : Nat → Option Nat) (X : List zShp) (M : zMem) (x1 : Int32) (R : zEnd) (h : zRT m_Town_taintOf 0 0 4 [(0, .ref 10), (1, .int x1), (2, .int 0), (3, .int 0)] [] (SHP g X) M R) : zRT m_Town_taintOf 0 0 0 [(0, .ref 10), (1, .int x1)] [] (SHP g X) M R := by
  refine zs_iconst 0 d_Town_taintOf_0 (by decide) ?_
  refine zs_istore_n2 2 [1, 2, 0] [(0, .ref 10), (1, .int x1), (2, .int 0)] d_Town_taintOf_1 rfl (by decide) rfl ?_
  refine zs_iconst 0 d_Town_taintOf_2 (by decide) ?_
  refine zs_istore_n2 3 [1, 2, 3, 0] [(0, .ref 10), (1, .int x1), (2, .int 0), (3, .int 0)] d_Town_taintOf_3 rfl (by decide) rfl ?_
  exact h
theorem v_Town_taintOf_4 (g : Nat → Option Nat) (X : List zShp) (M : zMem) (x1 x2 x3 : Int32) (R : zEnd) (h : (((M 11 5) ≤ x3) → (R (some (.int x2)) (SHP g X) M)) ∧ ((¬ (M 11 5) ≤ x3) → ((kCnt M ∧ kDpt M) ∧ ((((hb (kTch M x3) x1) = false) → (zRT m_Town_taintOf 0 0 4 [(0, .ref 10), (1, .int x1), (2, .int x2), (3, .int (x3 + 1))] [] (SHP g X) M R)) ∧ (((hb (kTch M x3) x1) = true) → (zRT m_Town_taintOf 0 0 4 [(0, .ref 10), (1, .int x1), (2, .int (x2 ||| ((1 : Int32) <<< (x3 &&& 31)))), (3, .int (x3 + 1))] [] (SHP g X) M R)))))) : zRT m_Town_taintOf 0 0 4 [(0, .ref 10), (1, .int x1), (2, .int x2), (3, .int x3)] [] (SHP g X) M R := by
  refine zs_iload_n 3 d_Town_taintOf_4 rfl (List.mem_of_getElem? (i := 3) rfl) ?_
  refine zs_aload_n 0 d_Town_taintOf_5 rfl (List.mem_of_getElem? (i := 0) rfl) ?_
  refine zs_get d_Town_taintOf_6 gf_Town_12 (sh_10 g X) rfl ?_
  refine zs_get d_Town_taintOf_9 gf_Town_78 (sh_11 g X) rfl ?_
  refine zs_icmp_ge 39 d_Town_taintOf_12 (by decide) (fun c1 => ?_) (fun c1 => ?_)
  · replace h := h.1 c1
    refine zs_iload_n 2 d_Town_taintOf_39 rfl (List.mem_of_getElem? (i := 2) rfl) ?_
    exact zs_iret d_Town_taintOf_40 rfl h
  · replace h := h.2 c1
    refine zs_aload_n 0 d_Town_taintOf_15 rfl (List.mem_of_getElem? (i := 0) rfl) ?_
    refine zs_iload_n 3 d_Town_taintOf_16 rfl (List.mem_of_getElem? (i := 3) rfl) ?_
    obtain ⟨p2, h⟩ := h
    refine zs_callV (kc := 0) (ks := 0) (kc1 := 0) (ks1 := 0) (st := []) [.int x3] d_Town_taintOf_17 lk_Town_72 ⟨by decide, by decide⟩ rfl (sh_10 g X) rfl (Nat.le_of_ble_eq_true rfl) (ex_Town_touchers g X M x3 p2) (fun v2 sh2 M2 hR => ?_)
    obtain ⟨rfl, rfl, rfl⟩ := hR
    refine zs_iload_n 1 d_Town_taintOf_20 rfl (List.mem_of_getElem? (i := 1) rfl) ?_
    refine zs_callSN (kc := 0) (ks := 0) (kc1 := 0) (ks1 := 0) (st := []) [.int (kTch M x3), .int x1] d_Town_taintOf_21 lk_Town_54 ⟨by decide, by decide⟩ rfl (Nat.le_of_ble_eq_true rfl) (ex_O_has g X M (kTch M x3) x1) (fun v3 sh3 M3 hR => ?_)
    obtain ⟨rfl, rfl, rfl⟩ := hR
    refine zs_if_eq 33 d_Town_taintOf_24 (by decide) (fun c4 => ?_) (fun c4 => ?_)
    · replace h := h.1 (bI_0 c4)
      refine zs_iinc2 3 (x3 + 1) [1, 2, 3, 0] [(0, .ref 10), (1, .int x1), (2, .int x2), (3, .int (x3 + 1))] d_Town_taintOf_33 rfl rfl (by decide) rfl ?_
      refine zs_goto 4 d_Town_taintOf_36 (by decide) ?_
      exact h
    · replace h := h.2 (bI_1 c4)
      refine zs_iload_n 2 d_Town_taintOf_27 rfl (List.mem_of_getElem? (i := 2) rfl) ?_
      refine zs_iconst 1 d_Town_taintOf_28 (by decide) ?_
      refine zs_iload_n 3 d_Town_taintOf_29 rfl (List.mem_of_getElem? (i := 3) rfl) ?_
      refine zs_ishl d_Town_taintOf_30 ?_
      refine zs_ior d_Town_taintOf_31 ?_
      refine zs_istore_n2 2 [1, 2, 0, 3] [(0, .ref 10), (1, .int x1), (2, .int (x2 ||| ((1 : Int32) <<< (x3 &&& 31)))), (3, .int x3)] d_Town_taintOf_32 rfl (by decide) rfl ?_
      refine zs_iinc2 3 (x3 + 1) [1, 2, 3, 0] [(0, .ref 10), (1, .int x1), (2, .int (x2 ||| ((1 : Int32) <<< (x3 &&& 31)))), (3, .int (x3 + 1))] d_Town_taintOf_33 rfl rfl (by decide) rfl ?_
      refine zs_goto 4 d_Town_taintOf_36 (by decide) ?_
      exact h
theorem ex_Town_taintOf (m : Int32) (hh : kCnt M ∧ kDpt M) : zEx m_Town_taintOf 0 0 [.ref 10, .int m] (SHP g X) M (qF g X (kTnt M m) M) := by
  refine zEx_of _ (by decide) (by simp [Value.category]) (Nat.le_of_ble_eq_true rfl) rfl (v_Town_taintOf_0 g X M m _ ?_)
  obtain ⟨hc1, hc2⟩ := kCnt_e hh.1
  have L : ∀ n k, k + n = kCN M → zRT m_Town_taintOf 0 0 4 [(0, .ref 10), (1, .int m), (2, .int (kOr (fun k => if hb (kTch M (nI k)) m = true then 1 <<< (nI k &&& 31) else 0) k)), (3, .int (nI k))] [] (SHP g X) M (qF g X (kTnt M m) M) := by
    intro n
    induction n with
    | zero =>
      intro k hk
      have e : k = kCN M := by omega
      subst e
      refine v_Town_taintOf_4 g X M m _ _ _ ⟨fun _ => qF_i rfl rfl, fun h => absurd (by rw [hc1]; exact nI_le (Nat.le_refl _) (by omega)) h⟩
    | succ n ih =>
      intro k hk
      have ih := ih (k + 1) (by omega)
      refine v_Town_taintOf_4 g X M m _ _ _ ⟨fun h => absurd h (by rw [hc1]; exact nI_ge (by omega) (by omega)), fun _ => ⟨hh, fun h => ?_, fun h => ?_⟩⟩
      · simp only [kOr, h] at ih
        rw [nI_1]
        simpa using ih
      · simp only [kOr, h] at ih
        rw [nI_1]
        simpa using ih
  exact L (kCN M) 0 (by omega)
theorem v_Town_fewestSteps_0 (g : Nat → Option Nat) (X : List zShp) (M : zMem) (x1 x2 : Int32) (R : zEnd) (h : zRT m_Town_fewestSteps 0 0 7 [(0, .ref 10), (2, .int x2), (3, .int ((1 : Int32) <<< (x1 &&& 31))), (4, .int 0)] [] (SHP g X) M R) : zRT m_Town_fewestSteps 0 0 0 [(0, .ref 10), (1, .int x1), (2, .int x2)] [] (SHP g X) M R := by
  refine zs_iconst 1 d_Town_fewestSteps_0 (by decide) ?_
  refine zs_iload_n 1 d_Town_fewestSteps_1 rfl (List.mem_of_getElem? (i := 1) rfl) ?_
  refine zs_ishl d_Town_fewestSteps_2 ?_
  refine zs_istore_n2 3 [1, 2, 3, 0] [(0, .ref 10), (1, .int x1), (2, .int x2), (3, .int ((1 : Int32) <<< (x1 &&& 31)))] d_Town_fewestSteps_3 rfl (by decide) rfl ?_
  refine zs_iconst 0 d_Town_fewestSteps_4 (by decide) ?_
  refine zs_istore2 [1, 2, 3, 4, 0] [(0, .ref 10), (1, .int x1), (2, .int x2), (3, .int ((1 : Int32) <<< (x1 &&& 31))), (4, .int 0)] d_Town_fewestSteps_5 (by decide) rfl ?_
  exact zRT_sub [0, 2, 3, 4] rfl h
theorem v_Town_fewestSteps_7 (g : Nat → Option Nat) (X : List zShp) (M : zMem) (x2 x3 x4 : Int32) (R : zEnd) (h : ((10 ≤ x4) → (R (some (.int (-6))) (SHP g X) M)) ∧ ((¬ 10 ≤ x4) → (((x3 = 0) → (R (some (.int (-6))) (SHP g X) M)) ∧ ((¬ x3 = 0) → ((kCnt M) ∧ (((((kHO M x3) &&& x2) = 0) → (((¬ (M 10 7) = 1) → ((kCnt M) ∧ (zRT m_Town_fewestSteps 0 0 7 [(0, .ref 10), (2, .int x2), (3, .int (kBh M x3 0)), (4, .int (x4 + 1))] [] (SHP g X) M R))) ∧ (((M 10 7) = 1) → ((kCnt M) ∧ (zRT m_Town_fewestSteps 0 0 7 [(0, .ref 10), (2, .int x2), (3, .int (kBh M x3 1)), (4, .int (x4 + 1))] [] (SHP g X) M R))))) ∧ ((¬ ((kHO M x3) &&& x2) = 0) → (R (some (.int x4)) (SHP g X) M)))))))) : zRT m_Town_fewestSteps 0 0 7 [(0, .ref 10), (2, .int x2), (3, .int x3), (4, .int x4)] [] (SHP g X) M R := by
  refine zs_iload d_Town_fewestSteps_7 (List.mem_of_getElem? (i := 3) rfl) ?_
  refine zs_bipush 10 d_Town_fewestSteps_9 (by decide) ?_
  refine zs_icmp_ge 62 d_Town_fewestSteps_11 (by decide) (fun c1 => ?_) (fun c1 => ?_)
  · replace h := h.1 c1
    refine zs_bipush (-6) d_Town_fewestSteps_62 (by decide) ?_
    exact zs_iret d_Town_fewestSteps_64 rfl h
  · replace h := h.2 c1
    refine zs_iload_n 3 d_Town_fewestSteps_14 rfl (List.mem_of_getElem? (i := 2) rfl) ?_
    refine zs_if_eq 62 d_Town_fewestSteps_15 (by decide) (fun c2 => ?_) (fun c2 => ?_)
    · replace h := h.1 c2
      refine zs_bipush (-6) d_Town_fewestSteps_62 (by decide) ?_
      exact zs_iret d_Town_fewestSteps_64 rfl h
    · replace h := h.2 c2
      refine zs_aload_n 0 d_Town_fewestSteps_18 rfl (List.mem_of_getElem? (i := 0) rfl) ?_
      refine zs_get d_Town_fewestSteps_19 gf_Town_12 (sh_10 g X) rfl ?_
      refine zs_iload_n 3 d_Town_fewestSteps_22 rfl (List.mem_of_getElem? (i := 2) rfl) ?_
      obtain ⟨p3, h⟩ := h
      refine zs_callV (kc := 0) (ks := 0) (kc1 := 0) (ks1 := 0) (st := []) [.int x3] d_Town_fewestSteps_23 lk_Town_69 ⟨by decide, by decide⟩ rfl (sh_11 g X) rfl (Nat.le_of_ble_eq_true rfl) (ex_Pages_handsOf g X M x3 p3) (fun v3 sh3 M3 hR => ?_)
      obtain ⟨rfl, rfl, rfl⟩ := hR
      refine zs_iload_n 2 d_Town_fewestSteps_26 rfl (List.mem_of_getElem? (i := 1) rfl) ?_
      refine zs_iand d_Town_fewestSteps_27 ?_
      refine zs_if_eq 34 d_Town_fewestSteps_28 (by decide) (fun c4 => ?_) (fun c4 => ?_)
      · replace h := h.1 c4
        refine zs_aload_n 0 d_Town_fewestSteps_34 rfl (List.mem_of_getElem? (i := 0) rfl) ?_
        refine zs_get d_Town_fewestSteps_35 gf_Town_12 (sh_10 g X) rfl ?_
        refine zs_iload_n 3 d_Town_fewestSteps_38 rfl (List.mem_of_getElem? (i := 2) rfl) ?_
        refine zs_aload_n 0 d_Town_fewestSteps_39 rfl (List.mem_of_getElem? (i := 0) rfl) ?_
        refine zs_get d_Town_fewestSteps_40 gf_Town_51 (sh_10 g X) rfl ?_
        refine zs_iconst 1 d_Town_fewestSteps_43 (by decide) ?_
        refine zs_icmp_ne 51 d_Town_fewestSteps_44 (by decide) (fun c5 => ?_) (fun c5 => ?_)
        · replace h := h.1 c5
          refine zs_iconst 0 d_Town_fewestSteps_51 (by decide) ?_
          obtain ⟨p6, h⟩ := h
          refine zs_callV (kc := 0) (ks := 0) (kc1 := 0) (ks1 := 0) (st := []) [.int x3, .int 0] d_Town_fewestSteps_52 lk_Town_62 ⟨by decide, by decide⟩ rfl (sh_11 g X) rfl (Nat.le_of_ble_eq_true rfl) (ex_Pages_behind g X M x3 0 p6) (fun v6 sh6 M6 hR => ?_)
          obtain ⟨rfl, rfl, rfl⟩ := hR
          refine zs_istore_n2 3 [1, 2, 0, 3] [(0, .ref 10), (2, .int x2), (3, .int (kBh M x3 0)), (4, .int x4)] d_Town_fewestSteps_55 rfl (by decide) rfl ?_
          refine zs_iinc2 3 (x4 + 1) [1, 2, 3, 0] [(0, .ref 10), (2, .int x2), (3, .int (kBh M x3 0)), (4, .int (x4 + 1))] d_Town_fewestSteps_56 rfl rfl (by decide) rfl ?_
          refine zs_goto 7 d_Town_fewestSteps_59 (by decide) ?_
          exact h
        · replace h := h.2 c5
          refine zs_iconst 1 d_Town_fewestSteps_47 (by decide) ?_
          refine zs_goto 52 d_Town_fewestSteps_48 (by decide) ?_
          obtain ⟨p7, h⟩ := h
          refine zs_callV (kc := 0) (ks := 0) (kc1 := 0) (ks1 := 0) (st := []) [.int x3, .int 1] d_Town_fewestSteps_52 lk_Town_62 ⟨by decide, by decide⟩ rfl (sh_11 g X) rfl (Nat.le_of_ble_eq_true rfl) (ex_Pages_behind g X M x3 1 p7) (fun v7 sh7 M7 hR => ?_)
          obtain ⟨rfl, rfl, rfl⟩ := hR
          refine zs_istore_n2 3 [1, 2, 0, 3] [(0, .ref 10), (2, .int x2), (3, .int (kBh M x3 1)), (4, .int x4)] d_Town_fewestSteps_55 rfl (by decide) rfl ?_
          refine zs_iinc2 3 (x4 + 1) [1, 2, 3, 0] [(0, .ref 10), (2, .int x2), (3, .int (kBh M x3 1)), (4, .int (x4 + 1))] d_Town_fewestSteps_56 rfl rfl (by decide) rfl ?_
          refine zs_goto 7 d_Town_fewestSteps_59 (by decide) ?_
          exact h
      · replace h := h.2 c4
        refine zs_iload d_Town_fewestSteps_31 (List.mem_of_getElem? (i := 3) rfl) ?_
        exact zs_iret d_Town_fewestSteps_33 rfl h
theorem ex_Town_fewestSteps (t men : Int32) (hh : kCnt M) : zEx m_Town_fewestSteps 0 0 [.ref 10, .int t, .int men] (SHP g X) M (qF g X (kFst M t men) M) := by
  refine zEx_of _ (by decide) (by simp [Value.category]) (Nat.le_of_ble_eq_true rfl) rfl (v_Town_fewestSteps_0 g X M t men _ ?_)
  have L : ∀ n k layer, k + n = 10 → zRT m_Town_fewestSteps 0 0 7 [(0, .ref 10), (2, .int men), (3, .int layer), (4, .int (nI k))] [] (SHP g X) M (qF g X (kFsn M men n k layer) M) := by
    intro n
    induction n with
    | zero =>
      intro k layer hk
      refine v_Town_fewestSteps_7 g X M men layer _ _ ⟨fun _ => qF_i rfl rfl, fun h => absurd (nI_le (a := 10) (by omega) (by omega)) h⟩
    | succ n ih =>
      intro k layer hk
      refine v_Town_fewestSteps_7 g X M men layer _ _ ⟨fun h => absurd h (nI_ge (b := 10) (by omega) (by decide)), fun _ => ⟨fun h => qF_i (by simp [kFsn, h]) rfl, fun h => ⟨hh, fun h3 => ⟨fun h2 => ⟨hh, ?_⟩, fun h2 => ⟨hh, ?_⟩⟩, fun h3 => qF_i (by simp [kFsn, h, h3]) rfl⟩⟩⟩
      · rw [nI_1]
        have := ih (k + 1) (kBh M layer 0) (by omega)
        simpa only [kFsn, if_neg h, if_pos h3, kTl, if_neg h2] using this
      · rw [nI_1]
        have := ih (k + 1) (kBh M layer 1) (by omega)
        simpa only [kFsn, if_neg h, if_pos h3, kTl, if_pos h2] using this
  exact L 10 0 _ rfl
end zC1
end
section
/-! what stays, and Shares -/
def kAg (l : List Nat) (M M1 : zMem) : Prop := ∀ p, p ∉ l → M1 p = M p
theorem kAg.rf {l : List Nat} {M : zMem} : kAg l M M := fun _ _ => rfl
theorem kAg.tr {l : List Nat} {M M1 M2 : zMem} (h1 : kAg l M M1) (h2 : kAg l M1 M2) : kAg l M M2 := fun p hp => (h2 p hp).trans (h1 p hp)
theorem kAg.st {l : List Nat} {M M1 : zMem} {p i : Nat} {v : Int32} (h : kAg l M M1) (hp : p ∈ l) : kAg l M (zms M1 p i v) := fun q hq => (zms_ne M1 p i v q (fun e => hq (e ▸ hp))).trans (h q hq)
theorem kAg.sr {l : List Nat} {M M1 : zMem} {p : Nat} {f : Nat → Int32} (h : kAg l M M1) (hp : p ∈ l) : kAg l M (zmr M1 p f) := fun q hq => (zmr_ne M1 p f q (fun e => hq (e ▸ hp))).trans (h q hq)
theorem kAg.mo {l l2 : List Nat} {M M1 : zMem} (h : kAg l M M1) (hl : ∀ p ∈ l, p ∈ l2) : kAg l2 M M1 := fun p hp => h p (fun q => hp (hl p q))
theorem kCnt_ag {M M1 : zMem} (h : M1 11 = M 11) (hc : kCnt M) : kCnt M1 := by
  obtain ⟨n, h1, h2⟩ := hc
  exact ⟨n, h1, by rw [h]; exact h2⟩
theorem kDpt_ag {M M1 : zMem} (h : M1 10 = M 10) (hc : kDpt M) : kDpt M1 := by
  obtain ⟨n, h1, h2⟩ := hc
  exact ⟨n, h1, by rw [h]; exact h2⟩
theorem zms_zmr (M : zMem) (p i : Nat) (f : Nat → Int32) (v : Int32) : zms (zmr M p f) p i v = zmr M p (upd f i v) := by
  funext a b
  by_cases ha : a = p <;> simp [zms, zmr, upd, ha]
theorem zmr_zmr (M : zMem) (p : Nat) (f f2 : Nat → Int32) : zmr (zmr M p f) p f2 = zmr M p f2 := by
  funext a b
  by_cases ha : a = p <;> simp [zmr, ha]
theorem zmr_self (M : zMem) (p : Nat) : zmr M p (M p) = M := by
  funext a b
  by_cases ha : a = p <;> simp [zmr, ha]
def kPh (h m : Int32) : Int32 := if bc h = 0 then 0 else if hb h m = true then 6144 / bc h else 0
def kEu : Nat → Int32 → Int32 → Int32
  | 0, d, _ => d
  | n + 1, d, r => if r = 0 then d else kEu n r (d - d / r * r)
def kLow (u l p : Int32) : Int32 := if kEu 64 l u = 0 then 0 else (if p = 0 then u else l) / kEu 64 l u
def kPt (M : zMem) (m : Int32) : Nat → Nat → Int32
  | 0 => M 23
  | n + 1 => upd (kPt M m n) n (if ahd (M 13 n) (nI n) = true then (if ahd (M 14 n) (nI n) = true then (kPt M m n (Int32.toNatClampNeg (M 13 n)) + kPt M m n (Int32.toNatClampNeg (M 14 n))) / 2 else kPt M m n (Int32.toNatClampNeg (M 13 n))) else kPh (M 12 n) m)
def kSv (M : zMem) (t m : Int32) : Int32 := kPt M m (Int32.toNatClampNeg t + 1) (Int32.toNatClampNeg t)
def kHv (M : zMem) (t ten : Int32) : Int32 := kOr (fun k => if kSv M t (nI k) ≤ 0 then 0 else if kSv M t (nI k) * 10 < ten * 6144 then 0 else 1 <<< (nI k &&& 31)) 6
def kHolds (M : zMem) (t ten : Int32) (r : Int32) (M2 : zMem) : Prop := r = kHv M t ten ∧ ∃ f, M2 = zmr M 23 f
theorem ahd_in {x : Int32} {k : Nat} (hk : k ≤ 10) (h : ahd x (nI k) = true) : ∃ j, j < k ∧ x = nI j := by
  simp only [ahd, Bool.and_eq_true, Bool.not_eq_true', decide_eq_false_iff_not] at h
  obtain ⟨j, hj, e⟩ := nI_of h.1
  subst e
  rw [nI_leI (by omega) hj] at h
  exact ⟨j, by omega, rfl⟩
/-- the parts of the things ahead don't come from the row as it was -/
theorem kPt_free (M : zMem) (f : Nat → Int32) (m : Int32) : ∀ n, n ≤ 10 → ∀ j, j < n → kPt (zmr M 23 f) m n j = kPt M m n j := by
  intro n
  induction n with
  | zero => intro _ j hj; omega
  | succ n ih =>
    intro hn j hj
    have ih := ih (by omega)
    have e1 : (zmr M 23 f) 13 = M 13 := zmr_ne M 23 f 13 (by decide)
    have e2 : (zmr M 23 f) 14 = M 14 := zmr_ne M 23 f 14 (by decide)
    have e3 : (zmr M 23 f) 12 = M 12 := zmr_ne M 23 f 12 (by decide)
    rcases Nat.lt_or_ge j n with h | h
    · simp only [kPt, upd, if_neg (Nat.ne_of_lt h)]
      exact ih j h
    · have : j = n := by omega
      subst this
      simp only [kPt, upd, if_true, e1, e2, e3]
      by_cases h1 : ahd (M 13 j) (nI j) = true
      · obtain ⟨a, ha, ea⟩ := ahd_in (by omega) h1
        by_cases h2 : ahd (M 14 j) (nI j) = true
        · obtain ⟨b, hb, eb⟩ := ahd_in (by omega) h2
          simp only [h1, h2, if_true]
          rw [ea, eb, nI_clamp (by omega), nI_clamp (by omega), ih a ha, ih b hb]
        · simp only [h1, h2, if_true]
          rw [ea, nI_clamp (by omega), ih a ha]
          simp
      · simp [h1]
section zC2
variable (g : Nat → Option Nat) (X : List zShp) (M : zMem)
theorem v_Shares_partsOfHands_0 (g : Nat → Option Nat) (X : List zShp) (M : zMem) (x0 x1 : Int32) (R : zEnd) (h : (((bc x0) = 0) → (R (some (.int 0)) (SHP g X) M)) ∧ ((¬ (bc x0) = 0) → ((((hb x0 x1) = true) → ((¬ (bc x0) = 0) ∧ (R (some (.int ((6144 : Int32) / (bc x0)))) (SHP g X) M))) ∧ (((hb x0 x1) = false) → (R (some (.int 0)) (SHP g X) M))))) : zRT m_Shares_partsOfHands 0 0 0 [(0, .int x0), (1, .int x1)] [] (SHP g X) M R := by
  refine zs_iload_n 0 d_Shares_partsOfHands_0 rfl (List.mem_of_getElem? (i := 0) rfl) ?_
  refine zs_callS (kc := 0) (ks := 0) (kc1 := 0) (ks1 := 0) (st := []) [.int x0] d_Shares_partsOfHands_1 lk_Shares_34 ⟨by decide, by decide⟩ rfl (Nat.le_of_ble_eq_true rfl) (ex_JI_bitCount g X M x0) (fun v1 sh1 M1 hR => ?_)
  obtain ⟨rfl, rfl, rfl⟩ := hR
  refine zs_istore_n2 2 [1, 2, 0] [(0, .int x0), (1, .int x1), (2, .int (bc x0))] d_Shares_partsOfHands_4 rfl (by decide) rfl ?_
  refine zs_iload_n 2 d_Shares_partsOfHands_5 rfl (List.mem_of_getElem? (i := 2) rfl) ?_
  refine zs_if_eq 17 d_Shares_partsOfHands_6 (by decide) (fun c2 => ?_) (fun c2 => ?_)
  · replace h := h.1 c2
    refine zs_iconst 0 d_Shares_partsOfHands_17 (by decide) ?_
    refine zs_goto 26 d_Shares_partsOfHands_18 (by decide) ?_
    exact zs_iret d_Shares_partsOfHands_26 rfl h
  · replace h := h.2 c2
    refine zs_iload_n 0 d_Shares_partsOfHands_9 rfl (List.mem_of_getElem? (i := 0) rfl) ?_
    refine zs_iload_n 1 d_Shares_partsOfHands_10 rfl (List.mem_of_getElem? (i := 1) rfl) ?_
    refine zs_callSN (kc := 0) (ks := 0) (kc1 := 0) (ks1 := 0) (st := []) [.int x0, .int x1] d_Shares_partsOfHands_11 lk_Shares_40 ⟨by decide, by decide⟩ rfl (Nat.le_of_ble_eq_true rfl) (ex_O_has g X M x0 x1) (fun v3 sh3 M3 hR => ?_)
    obtain ⟨rfl, rfl, rfl⟩ := hR
    refine zs_if_ne 21 d_Shares_partsOfHands_14 (by decide) (fun c4 => ?_) (fun c4 => ?_)
    · replace h := h.1 (bI_1 c4)
      refine zs_sipush 6144 d_Shares_partsOfHands_21 (by decide) ?_
      refine zs_iload_n 2 d_Shares_partsOfHands_24 rfl (List.mem_of_getElem? (i := 2) rfl) ?_
      obtain ⟨h0, h⟩ := h
      refine zs_idiv d_Shares_partsOfHands_25 h0 ?_
      exact zs_iret d_Shares_partsOfHands_26 rfl h
    · replace h := h.2 (bI_0 c4)
      refine zs_iconst 0 d_Shares_partsOfHands_17 (by decide) ?_
      refine zs_goto 26 d_Shares_partsOfHands_18 (by decide) ?_
      exact zs_iret d_Shares_partsOfHands_26 rfl h
theorem ex_Shares_partsOfHands (h m : Int32) : zEx m_Shares_partsOfHands 0 0 [.int h, .int m] (SHP g X) M (qF g X (kPh h m) M) := by
  refine zEx_of _ (by decide) (by simp [Value.category]) (Nat.le_of_ble_eq_true rfl) rfl (v_Shares_partsOfHands_0 g X M h m _ ⟨fun h1 => qF_i ?_ rfl, fun h1 => ⟨fun h2 => ⟨h1, qF_i ?_ rfl⟩, fun h2 => qF_i ?_ rfl⟩⟩) <;> simp [kPh, *]
theorem v_Shares_lowest_0 (g : Nat → Option Nat) (X : List zShp) (M : zMem) (x0 x1 x2 : Int32) (R : zEnd) (h : zRT m_Shares_lowest 0 0 8 [(0, .int x0), (1, .int x1), (2, .int x2), (3, .int x1), (4, .int x0), (5, .int 0)] [] (SHP g X) M R) : zRT m_Shares_lowest 0 0 0 [(0, .int x0), (1, .int x1), (2, .int x2)] [] (SHP g X) M R := by
  refine zs_iload_n 1 d_Shares_lowest_0 rfl (List.mem_of_getElem? (i := 1) rfl) ?_
  refine zs_istore_n2 3 [1, 2, 3, 0] [(0, .int x0), (1, .int x1), (2, .int x2), (3, .int x1)] d_Shares_lowest_1 rfl (by decide) rfl ?_
  refine zs_iload_n 0 d_Shares_lowest_2 rfl (List.mem_of_getElem? (i := 0) rfl) ?_
  refine zs_istore2 [1, 2, 3, 4, 0] [(0, .int x0), (1, .int x1), (2, .int x2), (3, .int x1), (4, .int x0)] d_Shares_lowest_3 (by decide) rfl ?_
  refine zs_iconst 0 d_Shares_lowest_5 (by decide) ?_
  refine zs_istore2 [1, 2, 3, 4, 5, 0] [(0, .int x0), (1, .int x1), (2, .int x2), (3, .int x1), (4, .int x0), (5, .int 0)] d_Shares_lowest_6 (by decide) rfl ?_
  exact h
theorem v_Shares_lowest_8 (g : Nat → Option Nat) (X : List zShp) (M : zMem) (x0 x1 x2 x3 x4 x5 : Int32) (R : zEnd) (h : ((64 ≤ x5) → (((¬ x3 = 0) → (((¬ x2 = 0) → ((¬ x3 = 0) ∧ (R (some (.int (x1 / x3))) (SHP g X) M))) ∧ ((x2 = 0) → ((¬ x3 = 0) ∧ (R (some (.int (x0 / x3))) (SHP g X) M))))) ∧ ((x3 = 0) → (R (some (.int 0)) (SHP g X) M)))) ∧ ((¬ 64 ≤ x5) → (((x4 = 0) → (((¬ x3 = 0) → (((¬ x2 = 0) → ((¬ x3 = 0) ∧ (R (some (.int (x1 / x3))) (SHP g X) M))) ∧ ((x2 = 0) → ((¬ x3 = 0) ∧ (R (some (.int (x0 / x3))) (SHP g X) M))))) ∧ ((x3 = 0) → (R (some (.int 0)) (SHP g X) M)))) ∧ ((¬ x4 = 0) → ((¬ x4 = 0) ∧ (zRT m_Shares_lowest 0 0 8 [(0, .int x0), (1, .int x1), (2, .int x2), (3, .int x4), (4, .int (x3 - x3 / x4 * x4)), (5, .int (x5 + 1))] [] (SHP g X) M R)))))) : zRT m_Shares_lowest 0 0 8 [(0, .int x0), (1, .int x1), (2, .int x2), (3, .int x3), (4, .int x4), (5, .int x5)] [] (SHP g X) M R := by
  refine zs_iload d_Shares_lowest_8 (List.mem_of_getElem? (i := 5) rfl) ?_
  refine zs_bipush 64 d_Shares_lowest_10 (by decide) ?_
  refine zs_icmp_ge 39 d_Shares_lowest_12 (by decide) (fun c1 => ?_) (fun c1 => ?_)
  · replace h := h.1 c1
    refine zs_iload_n 3 d_Shares_lowest_39 rfl (List.mem_of_getElem? (i := 3) rfl) ?_
    refine zs_if_ne 45 d_Shares_lowest_40 (by decide) (fun c2 => ?_) (fun c2 => ?_)
    · replace h := h.1 c2
      refine zs_iload_n 2 d_Shares_lowest_45 rfl (List.mem_of_getElem? (i := 2) rfl) ?_
      refine zs_if_ne 53 d_Shares_lowest_46 (by decide) (fun c3 => ?_) (fun c3 => ?_)
      · replace h := h.1 c3
        refine zs_iload_n 1 d_Shares_lowest_53 rfl (List.mem_of_getElem? (i := 1) rfl) ?_
        refine zs_iload_n 3 d_Shares_lowest_54 rfl (List.mem_of_getElem? (i := 3) rfl) ?_
        obtain ⟨h0, h⟩ := h
        refine zs_idiv d_Shares_lowest_55 h0 ?_
        exact zs_iret d_Shares_lowest_56 rfl h
      · replace h := h.2 c3
        refine zs_iload_n 0 d_Shares_lowest_49 rfl (List.mem_of_getElem? (i := 0) rfl) ?_
        refine zs_goto 54 d_Shares_lowest_50 (by decide) ?_
        refine zs_iload_n 3 d_Shares_lowest_54 rfl (List.mem_of_getElem? (i := 3) rfl) ?_
        obtain ⟨h0, h⟩ := h
        refine zs_idiv d_Shares_lowest_55 h0 ?_
        exact zs_iret d_Shares_lowest_56 rfl h
    · replace h := h.2 c2
      refine zs_iconst 0 d_Shares_lowest_43 (by decide) ?_
      exact zs_iret d_Shares_lowest_44 rfl h
  · replace h := h.2 c1
    refine zs_iload d_Shares_lowest_15 (List.mem_of_getElem? (i := 4) rfl) ?_
    refine zs_if_eq 39 d_Shares_lowest_17 (by decide) (fun c4 => ?_) (fun c4 => ?_)
    · replace h := h.1 c4
      refine zs_iload_n 3 d_Shares_lowest_39 rfl (List.mem_of_getElem? (i := 3) rfl) ?_
      refine zs_if_ne 45 d_Shares_lowest_40 (by decide) (fun c5 => ?_) (fun c5 => ?_)
      · replace h := h.1 c5
        refine zs_iload_n 2 d_Shares_lowest_45 rfl (List.mem_of_getElem? (i := 2) rfl) ?_
        refine zs_if_ne 53 d_Shares_lowest_46 (by decide) (fun c6 => ?_) (fun c6 => ?_)
        · replace h := h.1 c6
          refine zs_iload_n 1 d_Shares_lowest_53 rfl (List.mem_of_getElem? (i := 1) rfl) ?_
          refine zs_iload_n 3 d_Shares_lowest_54 rfl (List.mem_of_getElem? (i := 3) rfl) ?_
          obtain ⟨h0, h⟩ := h
          refine zs_idiv d_Shares_lowest_55 h0 ?_
          exact zs_iret d_Shares_lowest_56 rfl h
        · replace h := h.2 c6
          refine zs_iload_n 0 d_Shares_lowest_49 rfl (List.mem_of_getElem? (i := 0) rfl) ?_
          refine zs_goto 54 d_Shares_lowest_50 (by decide) ?_
          refine zs_iload_n 3 d_Shares_lowest_54 rfl (List.mem_of_getElem? (i := 3) rfl) ?_
          obtain ⟨h0, h⟩ := h
          refine zs_idiv d_Shares_lowest_55 h0 ?_
          exact zs_iret d_Shares_lowest_56 rfl h
      · replace h := h.2 c5
        refine zs_iconst 0 d_Shares_lowest_43 (by decide) ?_
        exact zs_iret d_Shares_lowest_44 rfl h
    · replace h := h.2 c4
      refine zs_iload_n 3 d_Shares_lowest_20 rfl (List.mem_of_getElem? (i := 3) rfl) ?_
      refine zs_iload d_Shares_lowest_21 (List.mem_of_getElem? (i := 4) rfl) ?_
      obtain ⟨h0, h⟩ := h
      refine zs_irem d_Shares_lowest_23 h0 ?_
      refine zs_istore2 [1, 2, 3, 4, 5, 6, 0] [(0, .int x0), (1, .int x1), (2, .int x2), (3, .int x3), (4, .int x4), (5, .int x5), (6, .int (x3 - x3 / x4 * x4))] d_Shares_lowest_24 (by decide) rfl ?_
      refine zs_iload d_Shares_lowest_26 (List.mem_of_getElem? (i := 4) rfl) ?_
      refine zs_istore_n2 3 [1, 2, 3, 0, 4, 5, 6] [(0, .int x0), (1, .int x1), (2, .int x2), (3, .int x4), (4, .int x4), (5, .int x5), (6, .int (x3 - x3 / x4 * x4))] d_Shares_lowest_28 rfl (by decide) rfl ?_
      refine zs_iload d_Shares_lowest_29 (List.mem_of_getElem? (i := 6) rfl) ?_
      refine zs_istore2 [1, 2, 3, 4, 0, 5, 6] [(0, .int x0), (1, .int x1), (2, .int x2), (3, .int x4), (4, .int (x3 - x3 / x4 * x4)), (5, .int x5), (6, .int (x3 - x3 / x4 * x4))] d_Shares_lowest_31 (by decide) rfl ?_
      refine zs_iinc2 5 (x5 + 1) [1, 2, 3, 4, 5, 0, 6] [(0, .int x0), (1, .int x1), (2, .int x2), (3, .int x4), (4, .int (x3 - x3 / x4 * x4)), (5, .int (x5 + 1)), (6, .int (x3 - x3 / x4 * x4))] d_Shares_lowest_33 rfl rfl (by decide) rfl ?_
      refine zs_goto 8 d_Shares_lowest_36 (by decide) ?_
      exact zRT_sub [0, 1, 2, 3, 4, 5] rfl h
theorem ex_Shares_lowest (u l p : Int32) : zEx m_Shares_lowest 0 0 [.int u, .int l, .int p] (SHP g X) M (qF g X (kLow u l p) M) := by
  refine zEx_of _ (by decide) (by simp [Value.category]) (Nat.le_of_ble_eq_true rfl) rfl (v_Shares_lowest_0 g X M u l p _ ?_)
  obtain ⟨D, hD⟩ : ∃ D, kEu 64 l u = D := ⟨_, rfl⟩
  have L : ∀ n k d r, k + n = 64 → kEu n d r = D → zRT m_Shares_lowest 0 0 8 [(0, .int u), (1, .int l), (2, .int p), (3, .int d), (4, .int r), (5, .int (nI k))] [] (SHP g X) M (qF g X (kLow u l p) M) := by
    intro n
    induction n with
    | zero =>
      intro k d r hk he
      simp only [kEu] at he
      refine v_Shares_lowest_8 g X M u l p d r _ _ ⟨fun _ => ?_, fun h => absurd (nI_le (a := 64) (by omega) (by omega)) h⟩
      exact ⟨fun h => ⟨fun h2 => ⟨h, qF_i (by unfold kLow; rw [hD, ← he, if_neg h, if_neg h2]) rfl⟩, fun h2 => ⟨h, qF_i (by unfold kLow; rw [hD, ← he, if_neg h, if_pos h2]) rfl⟩⟩, fun h => qF_i (by unfold kLow; rw [hD, ← he, if_pos h]) rfl⟩
    | succ n ih =>
      intro k d r hk he
      refine v_Shares_lowest_8 g X M u l p d r _ _ ⟨fun h => absurd h (nI_ge (b := 64) (by omega) (by decide)), fun _ => ⟨fun hr => ?_, fun hr => ⟨hr, ?_⟩⟩⟩
      · simp only [kEu, if_pos hr] at he
        exact ⟨fun h => ⟨fun h2 => ⟨h, qF_i (by unfold kLow; rw [hD, ← he, if_neg h, if_neg h2]) rfl⟩, fun h2 => ⟨h, qF_i (by unfold kLow; rw [hD, ← he, if_neg h, if_pos h2]) rfl⟩⟩, fun h => qF_i (by unfold kLow; rw [hD, ← he, if_pos h]) rfl⟩
      · simp only [kEu, if_neg hr] at he
        rw [nI_1]
        exact ih (k + 1) _ _ (by omega) he
  exact L 64 0 l u rfl hD
theorem v_Shares_partsOf_0 (g : Nat → Option Nat) (X : List zShp) (M : zMem) (x2 x3 : Int32) (R : zEnd) (h : zRT m_Shares_partsOf 0 0 3 [(0, .ref 22), (1, .ref 11), (2, .int x2), (3, .int x3), (4, .int 0)] [] (SHP g X) M R) : zRT m_Shares_partsOf 0 0 0 [(0, .ref 22), (1, .ref 11), (2, .int x2), (3, .int x3)] [] (SHP g X) M R := by
  refine zs_iconst 0 d_Shares_partsOf_0 (by decide) ?_
  refine zs_istore2 [1, 2, 3, 4, 0] [(0, .ref 22), (1, .ref 11), (2, .int x2), (3, .int x3), (4, .int 0)] d_Shares_partsOf_1 (by decide) rfl ?_
  exact h
theorem v_Shares_partsOf_3 (g : Nat → Option Nat) (X : List zShp) (M : zMem) (x2 x3 x4 : Int32) (R : zEnd) (h : ((x2 < x4) → ((vp_in x2 10) ∧ (R (some (.int (M 23 (Int32.toNatClampNeg x2)))) (SHP g X) M))) ∧ ((¬ x2 < x4) → (((10 ≤ x4) → ((vp_in x2 10) ∧ (R (some (.int (M 23 (Int32.toNatClampNeg x2)))) (SHP g X) M))) ∧ ((¬ 10 ≤ x4) → ((vp_in x4 10) ∧ ((((ahd (M 13 (Int32.toNatClampNeg x4)) x4) = true) → ((((ahd (M 14 (Int32.toNatClampNeg x4)) x4) = true) → ((vp_in (M 13 (Int32.toNatClampNeg x4)) 10) ∧ ((vp_in (M 14 (Int32.toNatClampNeg x4)) 10) ∧ (zRT m_Shares_partsOf 0 0 3 [(0, .ref 22), (1, .ref 11), (2, .int x2), (3, .int x3), (4, .int (x4 + 1))] [] (SHP g X) (zms M 23 (Int32.toNatClampNeg x4) (((M 23 (Int32.toNatClampNeg (M 13 (Int32.toNatClampNeg x4)))) + (M 23 (Int32.toNatClampNeg (M 14 (Int32.toNatClampNeg x4))))) / 2)) R)))) ∧ (((ahd (M 14 (Int32.toNatClampNeg x4)) x4) = false) → ((vp_in (M 13 (Int32.toNatClampNeg x4)) 10) ∧ (zRT m_Shares_partsOf 0 0 3 [(0, .ref 22), (1, .ref 11), (2, .int x2), (3, .int x3), (4, .int (x4 + 1))] [] (SHP g X) (zms M 23 (Int32.toNatClampNeg x4) (M 23 (Int32.toNatClampNeg (M 13 (Int32.toNatClampNeg x4))))) R))))) ∧ (((ahd (M 13 (Int32.toNatClampNeg x4)) x4) = false) → (zRT m_Shares_partsOf 0 0 3 [(0, .ref 22), (1, .ref 11), (2, .int x2), (3, .int x3), (4, .int (x4 + 1))] [] (SHP g X) (zms M 23 (Int32.toNatClampNeg x4) (kPh (M 12 (Int32.toNatClampNeg x4)) x3)) R)))))))) : zRT m_Shares_partsOf 0 0 3 [(0, .ref 22), (1, .ref 11), (2, .int x2), (3, .int x3), (4, .int x4)] [] (SHP g X) M R := by
  refine zs_iload d_Shares_partsOf_3 (List.mem_of_getElem? (i := 4) rfl) ?_
  refine zs_iload_n 2 d_Shares_partsOf_5 rfl (List.mem_of_getElem? (i := 2) rfl) ?_
  refine zs_icmp_gt 122 d_Shares_partsOf_6 (by decide) (fun c1 => ?_) (fun c1 => ?_)
  · replace h := h.1 c1
    refine zs_aload_n 0 d_Shares_partsOf_122 rfl (List.mem_of_getElem? (i := 0) rfl) ?_
    refine zs_get d_Shares_partsOf_123 gf_Shares_9 (sh_22 g X) rfl ?_
    refine zs_iload_n 2 d_Shares_partsOf_126 rfl (List.mem_of_getElem? (i := 2) rfl) ?_
    obtain ⟨b2, h⟩ := h
    refine zs_iald d_Shares_partsOf_127 (sh_23 g X) b2 ?_
    exact zs_iret d_Shares_partsOf_128 rfl h
  · replace h := h.2 c1
    refine zs_iload d_Shares_partsOf_9 (List.mem_of_getElem? (i := 4) rfl) ?_
    refine zs_bipush 10 d_Shares_partsOf_11 (by decide) ?_
    refine zs_icmp_ge 122 d_Shares_partsOf_13 (by decide) (fun c3 => ?_) (fun c3 => ?_)
    · replace h := h.1 c3
      refine zs_aload_n 0 d_Shares_partsOf_122 rfl (List.mem_of_getElem? (i := 0) rfl) ?_
      refine zs_get d_Shares_partsOf_123 gf_Shares_9 (sh_22 g X) rfl ?_
      refine zs_iload_n 2 d_Shares_partsOf_126 rfl (List.mem_of_getElem? (i := 2) rfl) ?_
      obtain ⟨b4, h⟩ := h
      refine zs_iald d_Shares_partsOf_127 (sh_23 g X) b4 ?_
      exact zs_iret d_Shares_partsOf_128 rfl h
    · replace h := h.2 c3
      refine zs_aload_n 1 d_Shares_partsOf_16 rfl (List.mem_of_getElem? (i := 1) rfl) ?_
      refine zs_get d_Shares_partsOf_17 gf_Shares_15 (sh_11 g X) rfl ?_
      refine zs_iload d_Shares_partsOf_20 (List.mem_of_getElem? (i := 4) rfl) ?_
      obtain ⟨b5, h⟩ := h
      refine zs_iald d_Shares_partsOf_22 (sh_13 g X) b5 ?_
      refine zs_istore2 [1, 2, 3, 4, 5, 0] [(0, .ref 22), (1, .ref 11), (2, .int x2), (3, .int x3), (4, .int x4), (5, .int (M 13 (Int32.toNatClampNeg x4)))] d_Shares_partsOf_23 (by decide) rfl ?_
      refine zs_aload_n 1 d_Shares_partsOf_25 rfl (List.mem_of_getElem? (i := 1) rfl) ?_
      refine zs_get d_Shares_partsOf_26 gf_Shares_20 (sh_11 g X) rfl ?_
      refine zs_iload d_Shares_partsOf_29 (List.mem_of_getElem? (i := 4) rfl) ?_
      refine zs_iald d_Shares_partsOf_31 (sh_14 g X) b5 ?_
      refine zs_istore2 [1, 2, 3, 4, 5, 6, 0] [(0, .ref 22), (1, .ref 11), (2, .int x2), (3, .int x3), (4, .int x4), (5, .int (M 13 (Int32.toNatClampNeg x4))), (6, .int (M 14 (Int32.toNatClampNeg x4)))] d_Shares_partsOf_32 (by decide) rfl ?_
      refine zs_iload d_Shares_partsOf_34 (List.mem_of_getElem? (i := 5) rfl) ?_
      refine zs_iload d_Shares_partsOf_36 (List.mem_of_getElem? (i := 4) rfl) ?_
      refine zs_callS (kc := 0) (ks := 0) (kc1 := 0) (ks1 := 0) (st := []) [.int (M 13 (Int32.toNatClampNeg x4)), .int x4] d_Shares_partsOf_38 lk_Shares_23 ⟨by decide, by decide⟩ rfl (Nat.le_of_ble_eq_true rfl) (ex_Shares_isAhead g X M (M 13 (Int32.toNatClampNeg x4)) x4) (fun v6 sh6 M6 hR => ?_)
      obtain ⟨rfl, rfl, rfl⟩ := hR
      refine zs_if_ne 65 d_Shares_partsOf_41 (by decide) (fun c7 => ?_) (fun c7 => ?_)
      · replace h := h.1 (bI_1 c7)
        refine zs_iload d_Shares_partsOf_65 (List.mem_of_getElem? (i := 6) rfl) ?_
        refine zs_iload d_Shares_partsOf_67 (List.mem_of_getElem? (i := 4) rfl) ?_
        refine zs_callS (kc := 0) (ks := 0) (kc1 := 0) (ks1 := 0) (st := []) [.int (M 14 (Int32.toNatClampNeg x4)), .int x4] d_Shares_partsOf_69 lk_Shares_23 ⟨by decide, by decide⟩ rfl (Nat.le_of_ble_eq_true rfl) (ex_Shares_isAhead g X M (M 14 (Int32.toNatClampNeg x4)) x4) (fun v8 sh8 M8 hR => ?_)
        obtain ⟨rfl, rfl, rfl⟩ := hR
        refine zs_if_ne 92 d_Shares_partsOf_72 (by decide) (fun c9 => ?_) (fun c9 => ?_)
        · replace h := h.1 (bI_1 c9)
          refine zs_aload_n 0 d_Shares_partsOf_92 rfl (List.mem_of_getElem? (i := 0) rfl) ?_
          refine zs_get d_Shares_partsOf_93 gf_Shares_9 (sh_22 g X) rfl ?_
          refine zs_iload d_Shares_partsOf_96 (List.mem_of_getElem? (i := 4) rfl) ?_
          refine zs_aload_n 0 d_Shares_partsOf_98 rfl (List.mem_of_getElem? (i := 0) rfl) ?_
          refine zs_get d_Shares_partsOf_99 gf_Shares_9 (sh_22 g X) rfl ?_
          refine zs_iload d_Shares_partsOf_102 (List.mem_of_getElem? (i := 5) rfl) ?_
          obtain ⟨b10, h⟩ := h
          refine zs_iald d_Shares_partsOf_104 (sh_23 g X) b10 ?_
          refine zs_aload_n 0 d_Shares_partsOf_105 rfl (List.mem_of_getElem? (i := 0) rfl) ?_
          refine zs_get d_Shares_partsOf_106 gf_Shares_9 (sh_22 g X) rfl ?_
          refine zs_iload d_Shares_partsOf_109 (List.mem_of_getElem? (i := 6) rfl) ?_
          obtain ⟨b11, h⟩ := h
          refine zs_iald d_Shares_partsOf_111 (sh_23 g X) b11 ?_
          refine zs_iadd d_Shares_partsOf_112 ?_
          refine zs_iconst 2 d_Shares_partsOf_113 (by decide) ?_
          refine zs_idiv d_Shares_partsOf_114 (by decide) ?_
          refine zs_iast d_Shares_partsOf_115 (sh_23 g X) b5 ?_
          refine zs_iinc2 4 (x4 + 1) [1, 2, 3, 4, 0, 5, 6] [(0, .ref 22), (1, .ref 11), (2, .int x2), (3, .int x3), (4, .int (x4 + 1)), (5, .int (M 13 (Int32.toNatClampNeg x4))), (6, .int (M 14 (Int32.toNatClampNeg x4)))] d_Shares_partsOf_116 rfl rfl (by decide) rfl ?_
          refine zs_goto 3 d_Shares_partsOf_119 (by decide) ?_
          exact zRT_sub [0, 1, 2, 3, 4] rfl h
        · replace h := h.2 (bI_0 c9)
          refine zs_aload_n 0 d_Shares_partsOf_75 rfl (List.mem_of_getElem? (i := 0) rfl) ?_
          refine zs_get d_Shares_partsOf_76 gf_Shares_9 (sh_22 g X) rfl ?_
          refine zs_iload d_Shares_partsOf_79 (List.mem_of_getElem? (i := 4) rfl) ?_
          refine zs_aload_n 0 d_Shares_partsOf_81 rfl (List.mem_of_getElem? (i := 0) rfl) ?_
          refine zs_get d_Shares_partsOf_82 gf_Shares_9 (sh_22 g X) rfl ?_
          refine zs_iload d_Shares_partsOf_85 (List.mem_of_getElem? (i := 5) rfl) ?_
          obtain ⟨b12, h⟩ := h
          refine zs_iald d_Shares_partsOf_87 (sh_23 g X) b12 ?_
          refine zs_iast d_Shares_partsOf_88 (sh_23 g X) b5 ?_
          refine zs_goto 116 d_Shares_partsOf_89 (by decide) ?_
          refine zs_iinc2 4 (x4 + 1) [1, 2, 3, 4, 0, 5, 6] [(0, .ref 22), (1, .ref 11), (2, .int x2), (3, .int x3), (4, .int (x4 + 1)), (5, .int (M 13 (Int32.toNatClampNeg x4))), (6, .int (M 14 (Int32.toNatClampNeg x4)))] d_Shares_partsOf_116 rfl rfl (by decide) rfl ?_
          refine zs_goto 3 d_Shares_partsOf_119 (by decide) ?_
          exact zRT_sub [0, 1, 2, 3, 4] rfl h
      · replace h := h.2 (bI_0 c7)
        refine zs_aload_n 0 d_Shares_partsOf_44 rfl (List.mem_of_getElem? (i := 0) rfl) ?_
        refine zs_get d_Shares_partsOf_45 gf_Shares_9 (sh_22 g X) rfl ?_
        refine zs_iload d_Shares_partsOf_48 (List.mem_of_getElem? (i := 4) rfl) ?_
        refine zs_aload_n 1 d_Shares_partsOf_50 rfl (List.mem_of_getElem? (i := 1) rfl) ?_
        refine zs_get d_Shares_partsOf_51 gf_Shares_27 (sh_11 g X) rfl ?_
        refine zs_iload d_Shares_partsOf_54 (List.mem_of_getElem? (i := 4) rfl) ?_
        refine zs_iald d_Shares_partsOf_56 (sh_12 g X) b5 ?_
        refine zs_iload_n 3 d_Shares_partsOf_57 rfl (List.mem_of_getElem? (i := 3) rfl) ?_
        refine zs_callS (kc := 0) (ks := 0) (kc1 := 0) (ks1 := 0) (st := [.int x4, .ref 23]) [.int (M 12 (Int32.toNatClampNeg x4)), .int x3] d_Shares_partsOf_58 lk_Shares_30 ⟨by decide, by decide⟩ rfl (Nat.le_of_ble_eq_true rfl) (ex_Shares_partsOfHands g X M (M 12 (Int32.toNatClampNeg x4)) x3) (fun v13 sh13 M13 hR => ?_)
        obtain ⟨rfl, rfl, rfl⟩ := hR
        refine zs_iast d_Shares_partsOf_61 (sh_23 g X) b5 ?_
        refine zs_goto 116 d_Shares_partsOf_62 (by decide) ?_
        refine zs_iinc2 4 (x4 + 1) [1, 2, 3, 4, 0, 5, 6] [(0, .ref 22), (1, .ref 11), (2, .int x2), (3, .int x3), (4, .int (x4 + 1)), (5, .int (M 13 (Int32.toNatClampNeg x4))), (6, .int (M 14 (Int32.toNatClampNeg x4)))] d_Shares_partsOf_116 rfl rfl (by decide) rfl ?_
        refine zs_goto 3 d_Shares_partsOf_119 (by decide) ?_
        exact zRT_sub [0, 1, 2, 3, 4] rfl h
theorem ex_Shares_partsOf (t m : Int32) (h : vp_in t 10) : zEx m_Shares_partsOf 0 0 [.ref 22, .ref 11, .int t, .int m] (SHP g X) M (qF g X (kPt M m (Int32.toNatClampNeg t + 1) (Int32.toNatClampNeg t)) (zmr M 23 (kPt M m (Int32.toNatClampNeg t + 1)))) := by
  refine zEx_of _ (by decide) (by simp [Value.category]) (Nat.le_of_ble_eq_true rfl) rfl (v_Shares_partsOf_0 g X M t m _ ?_)
  obtain ⟨j, hj, e⟩ := vp_in_of h (by decide)
  subst e
  rw [nI_clamp (by omega)]
  have L : ∀ n k, k + n = j + 1 → zRT m_Shares_partsOf 0 0 3 [(0, .ref 22), (1, .ref 11), (2, .int (nI j)), (3, .int m), (4, .int (nI k))] [] (SHP g X) (zmr M 23 (kPt M m k)) (qF g X (kPt M m (j + 1) j) (zmr M 23 (kPt M m (j + 1)))) := by
    intro n
    induction n with
    | zero =>
      intro k hk
      have e : k = j + 1 := by omega
      subst e
      refine v_Shares_partsOf_3 g X _ (nI j) m _ _ ⟨fun _ => ⟨vp_in_nI hj (by decide), qF_i ?_ rfl⟩, fun h => absurd (nI_lt (by omega) (by omega)) h⟩
      rw [nI_clamp (by omega), zmr_row]
    | succ n ih =>
      intro k hk
      have ih := ih (k + 1) (by omega)
      have e1 : (zmr M 23 (kPt M m k)) 13 = M 13 := zmr_ne M 23 _ 13 (by decide)
      have e2 : (zmr M 23 (kPt M m k)) 14 = M 14 := zmr_ne M 23 _ 14 (by decide)
      have e3 : (zmr M 23 (kPt M m k)) 12 = M 12 := zmr_ne M 23 _ 12 (by decide)
      have e4 : (zmr M 23 (kPt M m k)) 23 = kPt M m k := zmr_row M 23 _
      refine v_Shares_partsOf_3 g X _ (nI j) m _ _ ⟨fun h => absurd h (nI_nlt (by omega) (by omega)), fun _ => ⟨fun h => absurd h (nI_ge (b := 10) (by omega) (by decide)), fun _ => ⟨vp_in_nI (by omega) (by decide), ?_⟩⟩⟩
      rw [nI_1, nI_clamp (by omega), e1, e2, e3, e4]
      simp only [zms_zmr]
      refine ⟨fun h1 => ⟨fun h2 => ?_, fun h2 => ?_⟩, fun h1 => ?_⟩
      · obtain ⟨a, ha, ea⟩ := ahd_in (by omega) h1
        obtain ⟨b, hb, eb⟩ := ahd_in (by omega) h2
        refine ⟨by rw [ea]; exact vp_in_nI (by omega) (by decide), by rw [eb]; exact vp_in_nI (by omega) (by decide), ?_⟩
        simpa only [kPt, h1, h2, if_true] using ih
      · obtain ⟨a, ha, ea⟩ := ahd_in (by omega) h1
        refine ⟨by rw [ea]; exact vp_in_nI (by omega) (by decide), ?_⟩
        simpa [kPt, h1, h2] using ih
      · simpa [kPt, h1] using ih
  have h0 := L (j + 1) 0 (by omega)
  have e0 : zmr M 23 (kPt M m 0) = M := zmr_self M 23
  rw [e0] at h0
  exact h0
theorem v_Shares_holders_0 (g : Nat → Option Nat) (X : List zShp) (M : zMem) (x2 x3 : Int32) (R : zEnd) (h : zRT m_Shares_holders 0 0 6 [(0, .ref 22), (1, .ref 11), (2, .int x2), (3, .int x3), (4, .int 0), (5, .int 0)] [] (SHP g X) M R) : zRT m_Shares_holders 0 0 0 [(0, .ref 22), (1, .ref 11), (2, .int x2), (3, .int x3)] [] (SHP g X) M R := by
  refine zs_iconst 0 d_Shares_holders_0 (by decide) ?_
  refine zs_istore2 [1, 2, 3, 4, 0] [(0, .ref 22), (1, .ref 11), (2, .int x2), (3, .int x3), (4, .int 0)] d_Shares_holders_1 (by decide) rfl ?_
  refine zs_iconst 0 d_Shares_holders_3 (by decide) ?_
  refine zs_istore2 [1, 2, 3, 4, 5, 0] [(0, .ref 22), (1, .ref 11), (2, .int x2), (3, .int x3), (4, .int 0), (5, .int 0)] d_Shares_holders_4 (by decide) rfl ?_
  exact h
theorem v_Shares_holders_6 (g : Nat → Option Nat) (X : List zShp) (M : zMem) (x2 x3 x4 x5 : Int32) (R : zEnd) (h : ((6 ≤ x5) → (R (some (.int x4)) (SHP g X) M)) ∧ ((¬ 6 ≤ x5) → ((vp_in x2 10) ∧ ((((kPt M x5 (Int32.toNatClampNeg x2 + 1) (Int32.toNatClampNeg x2)) ≤ 0) → (zRT m_Shares_holders 0 0 6 [(0, .ref 22), (1, .ref 11), (2, .int x2), (3, .int x3), (4, .int x4), (5, .int (x5 + 1))] [] (SHP g X) (zmr M 23 (kPt M x5 (Int32.toNatClampNeg x2 + 1))) R)) ∧ ((¬ (kPt M x5 (Int32.toNatClampNeg x2 + 1) (Int32.toNatClampNeg x2)) ≤ 0) → (((((kPt M x5 (Int32.toNatClampNeg x2 + 1) (Int32.toNatClampNeg x2)) * 10) < (x3 * 6144)) → (zRT m_Shares_holders 0 0 6 [(0, .ref 22), (1, .ref 11), (2, .int x2), (3, .int x3), (4, .int x4), (5, .int (x5 + 1))] [] (SHP g X) (zmr M 23 (kPt M x5 (Int32.toNatClampNeg x2 + 1))) R)) ∧ ((¬ ((kPt M x5 (Int32.toNatClampNeg x2 + 1) (Int32.toNatClampNeg x2)) * 10) < (x3 * 6144)) → (zRT m_Shares_holders 0 0 6 [(0, .ref 22), (1, .ref 11), (2, .int x2), (3, .int x3), (4, .int (x4 ||| ((1 : Int32) <<< (x5 &&& 31)))), (5, .int (x5 + 1))] [] (SHP g X) (zmr M 23 (kPt M x5 (Int32.toNatClampNeg x2 + 1))) R)))))))) : zRT m_Shares_holders 0 0 6 [(0, .ref 22), (1, .ref 11), (2, .int x2), (3, .int x3), (4, .int x4), (5, .int x5)] [] (SHP g X) M R := by
  refine zs_iload d_Shares_holders_6 (List.mem_of_getElem? (i := 5) rfl) ?_
  refine zs_bipush 6 d_Shares_holders_8 (by decide) ?_
  refine zs_icmp_ge 56 d_Shares_holders_10 (by decide) (fun c1 => ?_) (fun c1 => ?_)
  · replace h := h.1 c1
    refine zs_iload d_Shares_holders_56 (List.mem_of_getElem? (i := 4) rfl) ?_
    exact zs_iret d_Shares_holders_58 rfl h
  · replace h := h.2 c1
    refine zs_aload_n 0 d_Shares_holders_13 rfl (List.mem_of_getElem? (i := 0) rfl) ?_
    refine zs_aload_n 1 d_Shares_holders_14 rfl (List.mem_of_getElem? (i := 1) rfl) ?_
    refine zs_iload_n 2 d_Shares_holders_15 rfl (List.mem_of_getElem? (i := 2) rfl) ?_
    refine zs_iload d_Shares_holders_16 (List.mem_of_getElem? (i := 5) rfl) ?_
    obtain ⟨p2, h⟩ := h
    refine zs_callV (kc := 0) (ks := 0) (kc1 := 0) (ks1 := 0) (st := []) [.ref 11, .int x2, .int x5] d_Shares_holders_18 lk_Shares_43 ⟨by decide, by decide⟩ rfl (sh_22 g X) rfl (Nat.le_of_ble_eq_true rfl) (ex_Shares_partsOf g X M x2 x5 p2) (fun v2 sh2 M2 hR => ?_)
    obtain ⟨rfl, rfl, rfl⟩ := hR
    refine zs_istore2 [1, 2, 3, 4, 5, 6, 0] [(0, .ref 22), (1, .ref 11), (2, .int x2), (3, .int x3), (4, .int x4), (5, .int x5), (6, .int (kPt M x5 (Int32.toNatClampNeg x2 + 1) (Int32.toNatClampNeg x2)))] d_Shares_holders_21 (by decide) rfl ?_
    refine zs_iload d_Shares_holders_23 (List.mem_of_getElem? (i := 6) rfl) ?_
    refine zs_if_le 50 d_Shares_holders_25 (by decide) (fun c3 => ?_) (fun c3 => ?_)
    · replace h := h.1 c3
      refine zs_iinc2 5 (x5 + 1) [1, 2, 3, 4, 5, 0, 6] [(0, .ref 22), (1, .ref 11), (2, .int x2), (3, .int x3), (4, .int x4), (5, .int (x5 + 1)), (6, .int (kPt M x5 (Int32.toNatClampNeg x2 + 1) (Int32.toNatClampNeg x2)))] d_Shares_holders_50 rfl rfl (by decide) rfl ?_
      refine zs_goto 6 d_Shares_holders_53 (by decide) ?_
      exact zRT_sub [0, 1, 2, 3, 4, 5] rfl h
    · replace h := h.2 c3
      refine zs_iload d_Shares_holders_28 (List.mem_of_getElem? (i := 6) rfl) ?_
      refine zs_bipush 10 d_Shares_holders_30 (by decide) ?_
      refine zs_imul d_Shares_holders_32 ?_
      refine zs_iload_n 3 d_Shares_holders_33 rfl (List.mem_of_getElem? (i := 3) rfl) ?_
      refine zs_sipush 6144 d_Shares_holders_34 (by decide) ?_
      refine zs_imul d_Shares_holders_37 ?_
      refine zs_icmp_lt 50 d_Shares_holders_38 (by decide) (fun c4 => ?_) (fun c4 => ?_)
      · replace h := h.1 c4
        refine zs_iinc2 5 (x5 + 1) [1, 2, 3, 4, 5, 0, 6] [(0, .ref 22), (1, .ref 11), (2, .int x2), (3, .int x3), (4, .int x4), (5, .int (x5 + 1)), (6, .int (kPt M x5 (Int32.toNatClampNeg x2 + 1) (Int32.toNatClampNeg x2)))] d_Shares_holders_50 rfl rfl (by decide) rfl ?_
        refine zs_goto 6 d_Shares_holders_53 (by decide) ?_
        exact zRT_sub [0, 1, 2, 3, 4, 5] rfl h
      · replace h := h.2 c4
        refine zs_iload d_Shares_holders_41 (List.mem_of_getElem? (i := 4) rfl) ?_
        refine zs_iconst 1 d_Shares_holders_43 (by decide) ?_
        refine zs_iload d_Shares_holders_44 (List.mem_of_getElem? (i := 5) rfl) ?_
        refine zs_ishl d_Shares_holders_46 ?_
        refine zs_ior d_Shares_holders_47 ?_
        refine zs_istore2 [1, 2, 3, 4, 0, 5, 6] [(0, .ref 22), (1, .ref 11), (2, .int x2), (3, .int x3), (4, .int (x4 ||| ((1 : Int32) <<< (x5 &&& 31)))), (5, .int x5), (6, .int (kPt M x5 (Int32.toNatClampNeg x2 + 1) (Int32.toNatClampNeg x2)))] d_Shares_holders_48 (by decide) rfl ?_
        refine zs_iinc2 5 (x5 + 1) [1, 2, 3, 4, 5, 0, 6] [(0, .ref 22), (1, .ref 11), (2, .int x2), (3, .int x3), (4, .int (x4 ||| ((1 : Int32) <<< (x5 &&& 31)))), (5, .int (x5 + 1)), (6, .int (kPt M x5 (Int32.toNatClampNeg x2 + 1) (Int32.toNatClampNeg x2)))] d_Shares_holders_50 rfl rfl (by decide) rfl ?_
        refine zs_goto 6 d_Shares_holders_53 (by decide) ?_
        exact zRT_sub [0, 1, 2, 3, 4, 5] rfl h
theorem ex_Shares_holders (t ten : Int32) (h : vp_in t 10) : zEx m_Shares_holders 0 0 [.ref 22, .ref 11, .int t, .int ten] (SHP g X) M (qR g X (kHolds M t ten)) := by
  refine zEx_of _ (by decide) (by simp [Value.category]) (Nat.le_of_ble_eq_true rfl) rfl (v_Shares_holders_0 g X M t ten _ ?_)
  obtain ⟨j, hj, e⟩ := vp_in_of h (by decide)
  have hcl : Int32.toNatClampNeg t = j := by rw [e]; exact nI_clamp (by omega)
  have L : ∀ n k f, k + n = 6 → zRT m_Shares_holders 0 0 6 [(0, .ref 22), (1, .ref 11), (2, .int t), (3, .int ten), (4, .int (kOr (fun k => if kSv M t (nI k) ≤ 0 then 0 else if kSv M t (nI k) * 10 < ten * 6144 then 0 else 1 <<< (nI k &&& 31)) k)), (5, .int (nI k))] [] (SHP g X) (zmr M 23 f) (qR g X (kHolds M t ten)) := by
    intro n
    induction n with
    | zero =>
      intro k f hk
      have e : k = 6 := by omega
      subst e
      exact v_Shares_holders_6 g X _ t ten _ _ _ ⟨fun _ => qR_i ⟨rfl, f, rfl⟩, fun h => absurd (nI_le (a := 6) (Nat.le_refl _) (by omega)) h⟩
    | succ n ih =>
      intro k f hk
      have e1 : kPt (zmr M 23 f) (nI k) (Int32.toNatClampNeg t + 1) (Int32.toNatClampNeg t) = kSv M t (nI k) := by
        unfold kSv
        rw [hcl]
        exact kPt_free M f (nI k) (j + 1) (by omega) j (by omega)
      refine v_Shares_holders_6 g X _ t ten _ _ _ ⟨fun h => absurd h (nI_ge (b := 6) (by omega) (by decide)), fun _ => ⟨h, ?_⟩⟩
      rw [e1, nI_1, zmr_zmr]
      have ih := ih (k + 1) (kPt (zmr M 23 f) (nI k) (Int32.toNatClampNeg t + 1)) (by omega)
      refine ⟨fun h1 => ?_, fun h1 => ⟨fun h2 => ?_, fun h2 => ?_⟩⟩
      · simpa [kOr, h1] using ih
      · simpa [kOr, h1, h2] using ih
      · simpa [kOr, h1, h2] using ih
  have h0 := L 6 0 (M 23) rfl
  rw [zmr_self] at h0
  exact h0
end zC2
end
section
/-! Filling (what it leaves is said only as far as it can go on) -/
def kAsk (M : zMem) : Prop := ∃ n : Nat, n ≤ 4 ∧ M 24 2 = nI n
def kFA (M M1 : zMem) : Prop := kAg [24, 25, 26] M M1 ∧ kAsk M1
def kWn (M : zMem) (w : Int32) : Nat → Int32
  | 0 => w
  | n + 1 => kWn M w n * bc (M 26 n)
def kWays (M : zMem) : Int32 := kWn M (if M 24 3 = 0 then 0 else 1) (Int32.toNatClampNeg (M 24 2))
def kSts (M : zMem) : Prop := ∃ n : Nat, n ≤ 6 ∧ M 10 5 = nI n ∧ ∀ i, i < n → vp_in (M 19 i) 6
theorem kSts_ag {M M1 : zMem} (h : M1 10 = M 10) (h2 : M1 19 = M 19) (hc : kSts M) : kSts M1 := by
  obtain ⟨n, h3, h4, h5⟩ := hc
  exact ⟨n, h3, by rw [h]; exact h4, fun i hi => by rw [h2]; exact h5 i hi⟩
section zC3
variable (g : Nat → Option Nat) (X : List zShp) (M : zMem)
theorem v_Filling_findAsks_0 (g : Nat → Option Nat) (X : List zShp) (M : zMem) (R : zEnd) (h : zRT m_Filling_findAsks 0 0 7 [(0, .ref 24), (1, .ref 11), (2, .int 0)] [] (SHP g X) (zms M 24 2 0) R) : zRT m_Filling_findAsks 0 0 0 [(0, .ref 24), (1, .ref 11)] [] (SHP g X) M R := by
  refine zs_aload_n 0 d_Filling_findAsks_0 rfl (List.mem_of_getElem? (i := 0) rfl) ?_
  refine zs_iconst 0 d_Filling_findAsks_1 (by decide) ?_
  refine zs_put d_Filling_findAsks_2 pf_Filling_53 (sh_24 g X) rfl rfl rfl ?_
  refine zs_iconst 0 d_Filling_findAsks_5 (by decide) ?_
  refine zs_istore_n2 2 [1, 2, 0] [(0, .ref 24), (1, .ref 11), (2, .int 0)] d_Filling_findAsks_6 rfl (by decide) rfl ?_
  exact h
theorem v_Filling_findAsks_7 (g : Nat → Option Nat) (X : List zShp) (M : zMem) (x2 : Int32) (R : zEnd) (h : (((M 11 5) ≤ x2) → (R none (SHP g X) M)) ∧ ((¬ (M 11 5) ≤ x2) → ((vp_in x2 10) ∧ (((¬ (M 16 (Int32.toNatClampNeg x2)) = 1) → (zRT m_Filling_findAsks 0 0 7 [(0, .ref 24), (1, .ref 11), (2, .int (x2 + 1))] [] (SHP g X) M R)) ∧ (((M 16 (Int32.toNatClampNeg x2)) = 1) → (((4 ≤ (M 24 2)) → (zRT m_Filling_findAsks 0 0 7 [(0, .ref 24), (1, .ref 11), (2, .int (x2 + 1))] [] (SHP g X) M R)) ∧ ((¬ 4 ≤ (M 24 2)) → ((vp_in (M 24 2) 4) ∧ (zRT m_Filling_findAsks 0 0 7 [(0, .ref 24), (1, .ref 11), (2, .int (x2 + 1))] [] (SHP g X) (zms (zms (zms M 25 (Int32.toNatClampNeg (M 24 2)) x2) 26 (Int32.toNatClampNeg (M 24 2)) ((63 : Int32) &&& ((M 12 (Int32.toNatClampNeg x2)) ^^^ (-1)))) 24 2 ((M 24 2) + 1)) R))))))))) : zRT m_Filling_findAsks 0 0 7 [(0, .ref 24), (1, .ref 11), (2, .int x2)] [] (SHP g X) M R := by
  refine zs_iload_n 2 d_Filling_findAsks_7 rfl (List.mem_of_getElem? (i := 2) rfl) ?_
  refine zs_aload_n 1 d_Filling_findAsks_8 rfl (List.mem_of_getElem? (i := 1) rfl) ?_
  refine zs_get d_Filling_findAsks_9 gf_Filling_56 (sh_11 g X) rfl ?_
  refine zs_icmp_ge 79 d_Filling_findAsks_12 (by decide) (fun c1 => ?_) (fun c1 => ?_)
  · replace h := h.1 c1
    exact zs_vret d_Filling_findAsks_79 rfl h
  · replace h := h.2 c1
    refine zs_aload_n 1 d_Filling_findAsks_15 rfl (List.mem_of_getElem? (i := 1) rfl) ?_
    refine zs_get d_Filling_findAsks_16 gf_Filling_61 (sh_11 g X) rfl ?_
    refine zs_iload_n 2 d_Filling_findAsks_19 rfl (List.mem_of_getElem? (i := 2) rfl) ?_
    obtain ⟨b2, h⟩ := h
    refine zs_iald d_Filling_findAsks_20 (sh_16 g X) b2 ?_
    refine zs_iconst 1 d_Filling_findAsks_21 (by decide) ?_
    refine zs_icmp_ne 73 d_Filling_findAsks_22 (by decide) (fun c3 => ?_) (fun c3 => ?_)
    · replace h := h.1 c3
      refine zs_iinc2 2 (x2 + 1) [1, 2, 0] [(0, .ref 24), (1, .ref 11), (2, .int (x2 + 1))] d_Filling_findAsks_73 rfl rfl (by decide) rfl ?_
      refine zs_goto 7 d_Filling_findAsks_76 (by decide) ?_
      exact h
    · replace h := h.2 c3
      refine zs_aload_n 0 d_Filling_findAsks_25 rfl (List.mem_of_getElem? (i := 0) rfl) ?_
      refine zs_get d_Filling_findAsks_26 gf_Filling_53 (sh_24 g X) rfl ?_
      refine zs_iconst 4 d_Filling_findAsks_29 (by decide) ?_
      refine zs_icmp_ge 73 d_Filling_findAsks_30 (by decide) (fun c4 => ?_) (fun c4 => ?_)
      · replace h := h.1 c4
        refine zs_iinc2 2 (x2 + 1) [1, 2, 0] [(0, .ref 24), (1, .ref 11), (2, .int (x2 + 1))] d_Filling_findAsks_73 rfl rfl (by decide) rfl ?_
        refine zs_goto 7 d_Filling_findAsks_76 (by decide) ?_
        exact h
      · replace h := h.2 c4
        refine zs_aload_n 0 d_Filling_findAsks_33 rfl (List.mem_of_getElem? (i := 0) rfl) ?_
        refine zs_get d_Filling_findAsks_34 gf_Filling_9 (sh_24 g X) rfl ?_
        refine zs_aload_n 0 d_Filling_findAsks_37 rfl (List.mem_of_getElem? (i := 0) rfl) ?_
        refine zs_get d_Filling_findAsks_38 gf_Filling_53 (sh_24 g X) rfl ?_
        refine zs_iload_n 2 d_Filling_findAsks_41 rfl (List.mem_of_getElem? (i := 2) rfl) ?_
        obtain ⟨b5, h⟩ := h
        refine zs_iast d_Filling_findAsks_42 (sh_25 g X) b5 ?_
        refine zs_aload_n 0 d_Filling_findAsks_43 rfl (List.mem_of_getElem? (i := 0) rfl) ?_
        refine zs_get d_Filling_findAsks_44 gf_Filling_15 (sh_24 g X) rfl ?_
        refine zs_aload_n 0 d_Filling_findAsks_47 rfl (List.mem_of_getElem? (i := 0) rfl) ?_
        refine zs_get d_Filling_findAsks_48 gf_Filling_53 (sh_24 g X) rfl ?_
        refine zs_bipush 63 d_Filling_findAsks_51 (by decide) ?_
        refine zs_aload_n 1 d_Filling_findAsks_53 rfl (List.mem_of_getElem? (i := 1) rfl) ?_
        refine zs_get d_Filling_findAsks_54 gf_Filling_64 (sh_11 g X) rfl ?_
        refine zs_iload_n 2 d_Filling_findAsks_57 rfl (List.mem_of_getElem? (i := 2) rfl) ?_
        refine zs_iald d_Filling_findAsks_58 (sh_12 g X) b2 ?_
        refine zs_iconst (-1) d_Filling_findAsks_59 (by decide) ?_
        refine zs_ixor d_Filling_findAsks_60 ?_
        refine zs_iand d_Filling_findAsks_61 ?_
        refine zs_iast d_Filling_findAsks_62 (sh_26 g X) b5 ?_
        refine zs_aload_n 0 d_Filling_findAsks_63 rfl (List.mem_of_getElem? (i := 0) rfl) ?_
        refine zs_dup d_Filling_findAsks_64 rfl ?_
        refine zs_get d_Filling_findAsks_65 gf_Filling_53 (sh_24 g X) rfl ?_
        refine zs_iconst 1 d_Filling_findAsks_68 (by decide) ?_
        refine zs_iadd d_Filling_findAsks_69 ?_
        refine zs_put d_Filling_findAsks_70 pf_Filling_53 (sh_24 g X) rfl rfl rfl ?_
        refine zs_iinc2 2 (x2 + 1) [1, 2, 0] [(0, .ref 24), (1, .ref 11), (2, .int (x2 + 1))] d_Filling_findAsks_73 rfl rfl (by decide) rfl ?_
        refine zs_goto 7 d_Filling_findAsks_76 (by decide) ?_
        exact h
theorem ex_Filling_findAsks (hc : kCnt M) : zEx m_Filling_findAsks 0 0 [.ref 24, .ref 11] (SHP g X) M (qW g X (kFA M)) := by
  refine zEx_of _ (by decide) (by simp [Value.category]) (Nat.le_of_ble_eq_true rfl) rfl (v_Filling_findAsks_0 g X M _ ?_)
  obtain ⟨hc1, hc2⟩ := kCnt_e hc
  have L : ∀ n k M1, k + n = kCN M → kFA M M1 → zRT m_Filling_findAsks 0 0 7 [(0, .ref 24), (1, .ref 11), (2, .int (nI k))] [] (SHP g X) M1 (qW g X (kFA M)) := by
    intro n
    induction n with
    | zero =>
      intro k M1 hk hf
      have e11 : M1 11 = M 11 := hf.1 11 (by decide)
      exact v_Filling_findAsks_7 g X _ _ _ ⟨fun _ => ⟨rfl, rfl, hf⟩, fun h => absurd (by rw [e11, hc1]; exact nI_le (by omega) (by omega)) h⟩
    | succ n ih =>
      intro k M1 hk hf
      have e11 : M1 11 = M 11 := hf.1 11 (by decide)
      obtain ⟨a, ha, ea⟩ := hf.2
      refine v_Filling_findAsks_7 g X _ _ _ ⟨fun h => absurd h (by rw [e11, hc1]; exact nI_ge (by omega) (by omega)), fun _ => ⟨vp_in_nI (by omega) (by decide), ?_⟩⟩
      rw [nI_1]
      have i0 := ih (k + 1) M1 (by omega) hf
      refine ⟨fun _ => i0, fun _ => ⟨fun _ => i0, fun h => ?_⟩⟩
      rw [ea] at h ⊢
      have ha4 : a < 4 := by
        rcases Nat.lt_or_ge a 4 with q | q
        · exact q
        · exact absurd (nI_le (a := 4) q (by omega)) h
      refine ⟨vp_in_nI ha4 (by decide), ih (k + 1) _ (by omega) ⟨((hf.1.st (by decide)).st (by decide)).st (by decide), a + 1, by omega, ?_⟩⟩
      rw [← nI_1]
      rfl
  exact L (kCN M) 0 _ (by omega) ⟨kAg.rf.st (by decide), 0, by omega, rfl⟩
theorem v_Filling_applySight_0 (g : Nat → Option Nat) (X : List zShp) (M : zMem) (x1 x2 : Int32) (R : zEnd) (h : (kCnt M) ∧ (((((kHO M x1) &&& x2) = 0) → (zRT m_Filling_applySight 0 0 18 [(0, .ref 24), (1, .int x1), (2, .int x2), (4, .int 0)] [] (SHP g X) M R)) ∧ ((¬ ((kHO M x1) &&& x2) = 0) → (zRT m_Filling_applySight 0 0 18 [(0, .ref 24), (1, .int x1), (2, .int x2), (4, .int 0)] [] (SHP g X) (zms M 24 3 0) R)))) : zRT m_Filling_applySight 0 0 0 [(0, .ref 24), (1, .int x1), (2, .int x2), (3, .ref 11)] [] (SHP g X) M R := by
  refine zs_aload_n 3 d_Filling_applySight_0 rfl (List.mem_of_getElem? (i := 3) rfl) ?_
  refine zs_iload_n 1 d_Filling_applySight_1 rfl (List.mem_of_getElem? (i := 1) rfl) ?_
  obtain ⟨p1, h⟩ := h
  refine zs_callV (kc := 0) (ks := 0) (kc1 := 0) (ks1 := 0) (st := []) [.int x1] d_Filling_applySight_2 lk_Filling_67 ⟨by decide, by decide⟩ rfl (sh_11 g X) rfl (Nat.le_of_ble_eq_true rfl) (ex_Pages_handsOf g X M x1 p1) (fun v1 sh1 M1 hR => ?_)
  obtain ⟨rfl, rfl, rfl⟩ := hR
  refine zs_iload_n 2 d_Filling_applySight_5 rfl (List.mem_of_getElem? (i := 2) rfl) ?_
  refine zs_iand d_Filling_applySight_6 ?_
  refine zs_if_eq 15 d_Filling_applySight_7 (by decide) (fun c2 => ?_) (fun c2 => ?_)
  · replace h := h.1 c2
    refine zs_iconst 0 d_Filling_applySight_15 (by decide) ?_
    refine zs_istore2 [1, 2, 3, 4, 0] [(0, .ref 24), (1, .int x1), (2, .int x2), (3, .ref 11), (4, .int 0)] d_Filling_applySight_16 (by decide) rfl ?_
    exact zRT_sub [0, 1, 2, 4] rfl h
  · replace h := h.2 c2
    refine zs_aload_n 0 d_Filling_applySight_10 rfl (List.mem_of_getElem? (i := 0) rfl) ?_
    refine zs_iconst 0 d_Filling_applySight_11 (by decide) ?_
    refine zs_put d_Filling_applySight_12 pf_Filling_28 (sh_24 g X) rfl rfl rfl ?_
    refine zs_iconst 0 d_Filling_applySight_15 (by decide) ?_
    refine zs_istore2 [1, 2, 3, 4, 0] [(0, .ref 24), (1, .int x1), (2, .int x2), (3, .ref 11), (4, .int 0)] d_Filling_applySight_16 (by decide) rfl ?_
    exact zRT_sub [0, 1, 2, 4] rfl h
theorem v_Filling_applySight_18 (g : Nat → Option Nat) (X : List zShp) (M : zMem) (x1 x2 x4 : Int32) (R : zEnd) (h : (((M 24 2) ≤ x4) → (R none (SHP g X) M)) ∧ ((¬ (M 24 2) ≤ x4) → ((vp_in x4 4) ∧ ((((hb x1 (M 25 (Int32.toNatClampNeg x4))) = false) → (zRT m_Filling_applySight 0 0 18 [(0, .ref 24), (1, .int x1), (2, .int x2), (4, .int (x4 + 1))] [] (SHP g X) M R)) ∧ (((hb x1 (M 25 (Int32.toNatClampNeg x4))) = true) → (zRT m_Filling_applySight 0 0 18 [(0, .ref 24), (1, .int x1), (2, .int x2), (4, .int (x4 + 1))] [] (SHP g X) (zms M 26 (Int32.toNatClampNeg x4) ((M 26 (Int32.toNatClampNeg x4)) &&& (x2 ^^^ (-1)))) R)))))) : zRT m_Filling_applySight 0 0 18 [(0, .ref 24), (1, .int x1), (2, .int x2), (4, .int x4)] [] (SHP g X) M R := by
  refine zs_iload d_Filling_applySight_18 (List.mem_of_getElem? (i := 3) rfl) ?_
  refine zs_aload_n 0 d_Filling_applySight_20 rfl (List.mem_of_getElem? (i := 0) rfl) ?_
  refine zs_get d_Filling_applySight_21 gf_Filling_53 (sh_24 g X) rfl ?_
  refine zs_icmp_ge 60 d_Filling_applySight_24 (by decide) (fun c1 => ?_) (fun c1 => ?_)
  · replace h := h.1 c1
    exact zs_vret d_Filling_applySight_60 rfl h
  · replace h := h.2 c1
    refine zs_iload_n 1 d_Filling_applySight_27 rfl (List.mem_of_getElem? (i := 1) rfl) ?_
    refine zs_aload_n 0 d_Filling_applySight_28 rfl (List.mem_of_getElem? (i := 0) rfl) ?_
    refine zs_get d_Filling_applySight_29 gf_Filling_9 (sh_24 g X) rfl ?_
    refine zs_iload d_Filling_applySight_32 (List.mem_of_getElem? (i := 3) rfl) ?_
    obtain ⟨b2, h⟩ := h
    refine zs_iald d_Filling_applySight_34 (sh_25 g X) b2 ?_
    refine zs_callSN (kc := 0) (ks := 0) (kc1 := 0) (ks1 := 0) (st := []) [.int x1, .int (M 25 (Int32.toNatClampNeg x4))] d_Filling_applySight_35 lk_Filling_70 ⟨by decide, by decide⟩ rfl (Nat.le_of_ble_eq_true rfl) (ex_O_has g X M x1 (M 25 (Int32.toNatClampNeg x4))) (fun v3 sh3 M3 hR => ?_)
    obtain ⟨rfl, rfl, rfl⟩ := hR
    refine zs_if_eq 54 d_Filling_applySight_38 (by decide) (fun c4 => ?_) (fun c4 => ?_)
    · replace h := h.1 (bI_0 c4)
      refine zs_iinc2 3 (x4 + 1) [1, 2, 3, 0] [(0, .ref 24), (1, .int x1), (2, .int x2), (4, .int (x4 + 1))] d_Filling_applySight_54 rfl rfl (by decide) rfl ?_
      refine zs_goto 18 d_Filling_applySight_57 (by decide) ?_
      exact h
    · replace h := h.2 (bI_1 c4)
      refine zs_aload_n 0 d_Filling_applySight_41 rfl (List.mem_of_getElem? (i := 0) rfl) ?_
      refine zs_get d_Filling_applySight_42 gf_Filling_15 (sh_24 g X) rfl ?_
      refine zs_iload d_Filling_applySight_45 (List.mem_of_getElem? (i := 3) rfl) ?_
      refine zs_dup2 d_Filling_applySight_47 rfl rfl ?_
      refine zs_iald d_Filling_applySight_48 (sh_26 g X) b2 ?_
      refine zs_iload_n 2 d_Filling_applySight_49 rfl (List.mem_of_getElem? (i := 2) rfl) ?_
      refine zs_iconst (-1) d_Filling_applySight_50 (by decide) ?_
      refine zs_ixor d_Filling_applySight_51 ?_
      refine zs_iand d_Filling_applySight_52 ?_
      refine zs_iast d_Filling_applySight_53 (sh_26 g X) b2 ?_
      refine zs_iinc2 3 (x4 + 1) [1, 2, 3, 0] [(0, .ref 24), (1, .int x1), (2, .int x2), (4, .int (x4 + 1))] d_Filling_applySight_54 rfl rfl (by decide) rfl ?_
      refine zs_goto 18 d_Filling_applySight_57 (by decide) ?_
      exact h
theorem ex_Filling_applySight (r cp : Int32) (hh : kCnt M ∧ kAsk M) : zEx m_Filling_applySight 0 0 [.ref 24, .int r, .int cp, .ref 11] (SHP g X) M (qW g X (kFA M)) := by
  refine zEx_of _ (by decide) (by simp [Value.category]) (Nat.le_of_ble_eq_true rfl) rfl (v_Filling_applySight_0 g X M r cp _ ⟨hh.1, ?_⟩)
  obtain ⟨a, ha, ea⟩ := hh.2
  have L : ∀ n k M1, k + n = a → kAg [24, 25, 26] M M1 → M1 24 2 = nI a → zRT m_Filling_applySight 0 0 18 [(0, .ref 24), (1, .int r), (2, .int cp), (4, .int (nI k))] [] (SHP g X) M1 (qW g X (kFA M)) := by
    intro n
    induction n with
    | zero =>
      intro k M1 hk hf he
      exact v_Filling_applySight_18 g X _ _ _ _ _ ⟨fun _ => ⟨rfl, rfl, hf, a, ha, he⟩, fun h => absurd (by rw [he]; exact nI_le (by omega) (by omega)) h⟩
    | succ n ih =>
      intro k M1 hk hf he
      refine v_Filling_applySight_18 g X _ _ _ _ _ ⟨fun h => absurd h (by rw [he]; exact nI_ge (by omega) (by omega)), fun _ => ⟨vp_in_nI (by omega) (by decide), ?_⟩⟩
      rw [nI_1]
      exact ⟨fun _ => ih (k + 1) _ (by omega) hf he, fun _ => ih (k + 1) _ (by omega) (hf.st (by decide)) he⟩
  exact ⟨fun _ => L a 0 _ (by omega) kAg.rf ea, fun _ => L a 0 _ (by omega) (kAg.rf.st (by decide)) ea⟩
theorem v_Filling_ways_0 (g : Nat → Option Nat) (X : List zShp) (M : zMem) (R : zEnd) (h : (((M 24 3) = 0) → (zRT m_Filling_ways 0 0 15 [(0, .ref 24), (1, .int 0), (2, .int 0)] [] (SHP g X) M R)) ∧ ((¬ (M 24 3) = 0) → (zRT m_Filling_ways 0 0 15 [(0, .ref 24), (1, .int 1), (2, .int 0)] [] (SHP g X) M R))) : zRT m_Filling_ways 0 0 0 [(0, .ref 24)] [] (SHP g X) M R := by
  refine zs_aload_n 0 d_Filling_ways_0 rfl (List.mem_of_getElem? (i := 0) rfl) ?_
  refine zs_get d_Filling_ways_1 gf_Filling_28 (sh_24 g X) rfl ?_
  refine zs_if_eq 11 d_Filling_ways_4 (by decide) (fun c1 => ?_) (fun c1 => ?_)
  · replace h := h.1 c1
    refine zs_iconst 0 d_Filling_ways_11 (by decide) ?_
    refine zs_istore_n2 1 [1, 0] [(0, .ref 24), (1, .int 0)] d_Filling_ways_12 rfl (by decide) rfl ?_
    refine zs_iconst 0 d_Filling_ways_13 (by decide) ?_
    refine zs_istore_n2 2 [1, 2, 0] [(0, .ref 24), (1, .int 0), (2, .int 0)] d_Filling_ways_14 rfl (by decide) rfl ?_
    exact h
  · replace h := h.2 c1
    refine zs_iconst 1 d_Filling_ways_7 (by decide) ?_
    refine zs_goto 12 d_Filling_ways_8 (by decide) ?_
    refine zs_istore_n2 1 [1, 0] [(0, .ref 24), (1, .int 1)] d_Filling_ways_12 rfl (by decide) rfl ?_
    refine zs_iconst 0 d_Filling_ways_13 (by decide) ?_
    refine zs_istore_n2 2 [1, 2, 0] [(0, .ref 24), (1, .int 1), (2, .int 0)] d_Filling_ways_14 rfl (by decide) rfl ?_
    exact h
theorem v_Filling_ways_15 (g : Nat → Option Nat) (X : List zShp) (M : zMem) (x1 x2 : Int32) (R : zEnd) (h : (((M 24 2) ≤ x2) → (R (some (.int x1)) (SHP g X) M)) ∧ ((¬ (M 24 2) ≤ x2) → ((vp_in x2 4) ∧ (zRT m_Filling_ways 0 0 15 [(0, .ref 24), (1, .int (x1 * (bc (M 26 (Int32.toNatClampNeg x2))))), (2, .int (x2 + 1))] [] (SHP g X) M R)))) : zRT m_Filling_ways 0 0 15 [(0, .ref 24), (1, .int x1), (2, .int x2)] [] (SHP g X) M R := by
  refine zs_iload_n 2 d_Filling_ways_15 rfl (List.mem_of_getElem? (i := 2) rfl) ?_
  refine zs_aload_n 0 d_Filling_ways_16 rfl (List.mem_of_getElem? (i := 0) rfl) ?_
  refine zs_get d_Filling_ways_17 gf_Filling_53 (sh_24 g X) rfl ?_
  refine zs_icmp_ge 41 d_Filling_ways_20 (by decide) (fun c1 => ?_) (fun c1 => ?_)
  · replace h := h.1 c1
    refine zs_iload_n 1 d_Filling_ways_41 rfl (List.mem_of_getElem? (i := 1) rfl) ?_
    exact zs_iret d_Filling_ways_42 rfl h
  · replace h := h.2 c1
    refine zs_iload_n 1 d_Filling_ways_23 rfl (List.mem_of_getElem? (i := 1) rfl) ?_
    refine zs_aload_n 0 d_Filling_ways_24 rfl (List.mem_of_getElem? (i := 0) rfl) ?_
    refine zs_get d_Filling_ways_25 gf_Filling_15 (sh_24 g X) rfl ?_
    refine zs_iload_n 2 d_Filling_ways_28 rfl (List.mem_of_getElem? (i := 2) rfl) ?_
    obtain ⟨b2, h⟩ := h
    refine zs_iald d_Filling_ways_29 (sh_26 g X) b2 ?_
    refine zs_callS (kc := 0) (ks := 0) (kc1 := 0) (ks1 := 0) (st := [.int x1]) [.int (M 26 (Int32.toNatClampNeg x2))] d_Filling_ways_30 lk_Filling_74 ⟨by decide, by decide⟩ rfl (Nat.le_of_ble_eq_true rfl) (ex_JI_bitCount g X M (M 26 (Int32.toNatClampNeg x2))) (fun v3 sh3 M3 hR => ?_)
    obtain ⟨rfl, rfl, rfl⟩ := hR
    refine zs_imul d_Filling_ways_33 ?_
    refine zs_istore_n2 1 [1, 0, 2] [(0, .ref 24), (1, .int (x1 * (bc (M 26 (Int32.toNatClampNeg x2))))), (2, .int x2)] d_Filling_ways_34 rfl (by decide) rfl ?_
    refine zs_iinc2 2 (x2 + 1) [1, 2, 0] [(0, .ref 24), (1, .int (x1 * (bc (M 26 (Int32.toNatClampNeg x2))))), (2, .int (x2 + 1))] d_Filling_ways_35 rfl rfl (by decide) rfl ?_
    refine zs_goto 15 d_Filling_ways_38 (by decide) ?_
    exact h
theorem ex_Filling_ways (hh : kAsk M) : zEx m_Filling_ways 0 0 [.ref 24] (SHP g X) M (qF g X (kWays M) M) := by
  refine zEx_of _ (by decide) (by simp [Value.category]) (Nat.le_of_ble_eq_true rfl) rfl (v_Filling_ways_0 g X M _ ?_)
  obtain ⟨a, ha, ea⟩ := hh
  have L : ∀ w n k, k + n = a → zRT m_Filling_ways 0 0 15 [(0, .ref 24), (1, .int (kWn M w k)), (2, .int (nI k))] [] (SHP g X) M (qF g X (kWn M w a) M) := by
    intro w n
    induction n with
    | zero =>
      intro k hk
      have e : k = a := by omega
      subst e
      exact v_Filling_ways_15 g X _ _ _ _ ⟨fun _ => qF_i rfl rfl, fun h => absurd (by rw [ea]; exact nI_le (by omega) (by omega)) h⟩
    | succ n ih =>
      intro k hk
      refine v_Filling_ways_15 g X _ _ _ _ ⟨fun h => absurd h (by rw [ea]; exact nI_ge (by omega) (by omega)), fun _ => ⟨vp_in_nI (by omega) (by decide), ?_⟩⟩
      rw [nI_1, nI_clamp (by omega)]
      exact ih (k + 1) (by omega)
  have ew : kWays M = kWn M (if M 24 3 = 0 then 0 else 1) a := by unfold kWays; rw [ea, nI_clamp (by omega)]
  rw [ew]
  exact ⟨fun h => by rw [if_pos h]; exact L 0 a 0 (by omega), fun h => by rw [if_neg h]; exact L 1 a 0 (by omega)⟩
theorem v_Filling_weigh_0 (g : Nat → Option Nat) (X : List zShp) (M : zMem) (R : zEnd) (h : (kCnt M) ∧ (∀ (M1 : zMem), (kFA M M1) → (zRT m_Filling_weigh 0 0 15 [(0, .ref 24), (1, .ref 10), (2, .int 0)] [] (SHP g X) (zms M1 24 3 1) R))) : zRT m_Filling_weigh 0 0 0 [(0, .ref 24), (1, .ref 10)] [] (SHP g X) M R := by
  refine zs_aload_n 0 d_Filling_weigh_0 rfl (List.mem_of_getElem? (i := 0) rfl) ?_
  refine zs_aload_n 1 d_Filling_weigh_1 rfl (List.mem_of_getElem? (i := 1) rfl) ?_
  refine zs_get d_Filling_weigh_2 gf_Filling_18 (sh_10 g X) rfl ?_
  obtain ⟨p1, h⟩ := h
  refine zs_callV (kc := 0) (ks := 0) (kc1 := 0) (ks1 := 0) (st := []) [.ref 11] d_Filling_weigh_5 lk_Filling_24 ⟨by decide, by decide⟩ rfl (sh_24 g X) rfl (Nat.le_of_ble_eq_true rfl) (ex_Filling_findAsks g X M p1) (fun v1 sh1 M1 hR => ?_)
  obtain ⟨rfl, rfl, hq1⟩ := hR
  replace h := h M1 hq1
  refine zs_aload_n 0 d_Filling_weigh_8 rfl (List.mem_of_getElem? (i := 0) rfl) ?_
  refine zs_iconst 1 d_Filling_weigh_9 (by decide) ?_
  refine zs_put d_Filling_weigh_10 pf_Filling_28 (sh_24 g X) rfl rfl rfl ?_
  refine zs_iconst 0 d_Filling_weigh_13 (by decide) ?_
  refine zs_istore_n2 2 [1, 2, 0] [(0, .ref 24), (1, .ref 10), (2, .int 0)] d_Filling_weigh_14 rfl (by decide) rfl ?_
  exact h
theorem v_Filling_weigh_15 (g : Nat → Option Nat) (X : List zShp) (M : zMem) (x2 : Int32) (R : zEnd) (h : (((M 10 5) ≤ x2) → (R none (SHP g X) M)) ∧ ((¬ (M 10 5) ≤ x2) → ((vp_in x2 6) ∧ ((kCnt M ∧ kDpt M) ∧ ((vp_in (M 19 (Int32.toNatClampNeg x2)) 6) ∧ ((kCnt M ∧ kAsk M) ∧ (∀ (M5 : zMem), (kFA M M5) → (zRT m_Filling_weigh 0 0 15 [(0, .ref 24), (1, .ref 10), (2, .int (x2 + 1))] [] (SHP g X) M5 R)))))))) : zRT m_Filling_weigh 0 0 15 [(0, .ref 24), (1, .ref 10), (2, .int x2)] [] (SHP g X) M R := by
  refine zs_iload_n 2 d_Filling_weigh_15 rfl (List.mem_of_getElem? (i := 2) rfl) ?_
  refine zs_aload_n 1 d_Filling_weigh_16 rfl (List.mem_of_getElem? (i := 1) rfl) ?_
  refine zs_get d_Filling_weigh_17 gf_Filling_32 (sh_10 g X) rfl ?_
  refine zs_icmp_ge 57 d_Filling_weigh_20 (by decide) (fun c1 => ?_) (fun c1 => ?_)
  · replace h := h.1 c1
    exact zs_vret d_Filling_weigh_57 rfl h
  · replace h := h.2 c1
    refine zs_aload_n 0 d_Filling_weigh_23 rfl (List.mem_of_getElem? (i := 0) rfl) ?_
    refine zs_aload_n 1 d_Filling_weigh_24 rfl (List.mem_of_getElem? (i := 1) rfl) ?_
    refine zs_aload_n 1 d_Filling_weigh_25 rfl (List.mem_of_getElem? (i := 1) rfl) ?_
    refine zs_get d_Filling_weigh_26 gf_Filling_36 (sh_10 g X) rfl ?_
    refine zs_iload_n 2 d_Filling_weigh_29 rfl (List.mem_of_getElem? (i := 2) rfl) ?_
    obtain ⟨b2, h⟩ := h
    refine zs_iald d_Filling_weigh_30 (sh_20 g X) b2 ?_
    obtain ⟨p3, h⟩ := h
    refine zs_callV (kc := 0) (ks := 0) (kc1 := 0) (ks1 := 0) (st := [.ref 24]) [.int (M 20 (Int32.toNatClampNeg x2))] d_Filling_weigh_31 lk_Filling_39 ⟨by decide, by decide⟩ rfl (sh_10 g X) rfl (Nat.le_of_ble_eq_true rfl) (ex_Town_reach g X M (M 20 (Int32.toNatClampNeg x2)) p3) (fun v3 sh3 M3 hR => ?_)
    obtain ⟨rfl, rfl, rfl⟩ := hR
    refine zs_aload_n 1 d_Filling_weigh_34 rfl (List.mem_of_getElem? (i := 1) rfl) ?_
    refine zs_aload_n 1 d_Filling_weigh_35 rfl (List.mem_of_getElem? (i := 1) rfl) ?_
    refine zs_get d_Filling_weigh_36 gf_Filling_43 (sh_10 g X) rfl ?_
    refine zs_iload_n 2 d_Filling_weigh_39 rfl (List.mem_of_getElem? (i := 2) rfl) ?_
    refine zs_iald d_Filling_weigh_40 (sh_19 g X) b2 ?_
    obtain ⟨p4, h⟩ := h
    refine zs_callV (kc := 0) (ks := 0) (kc1 := 0) (ks1 := 0) (st := [.int (kRch M (M 20 (Int32.toNatClampNeg x2))), .ref 24]) [.int (M 19 (Int32.toNatClampNeg x2))] d_Filling_weigh_41 lk_Filling_46 ⟨by decide, by decide⟩ rfl (sh_10 g X) rfl (Nat.le_of_ble_eq_true rfl) (ex_Town_couple g X M (M 19 (Int32.toNatClampNeg x2)) p4) (fun v4 sh4 M4 hR => ?_)
    obtain ⟨rfl, rfl, rfl⟩ := hR
    refine zs_aload_n 1 d_Filling_weigh_44 rfl (List.mem_of_getElem? (i := 1) rfl) ?_
    refine zs_get d_Filling_weigh_45 gf_Filling_18 (sh_10 g X) rfl ?_
    obtain ⟨p5, h⟩ := h
    refine zs_callV (kc := 0) (ks := 0) (kc1 := 0) (ks1 := 0) (st := []) [.int (kRch M (M 20 (Int32.toNatClampNeg x2))), .int (kCpl M (M 19 (Int32.toNatClampNeg x2))), .ref 11] d_Filling_weigh_48 lk_Filling_49 ⟨by decide, by decide⟩ rfl (sh_24 g X) rfl (Nat.le_of_ble_eq_true rfl) (ex_Filling_applySight g X M (kRch M (M 20 (Int32.toNatClampNeg x2))) (kCpl M (M 19 (Int32.toNatClampNeg x2))) p5) (fun v5 sh5 M5 hR => ?_)
    obtain ⟨rfl, rfl, hq5⟩ := hR
    replace h := h M5 hq5
    refine zs_iinc2 2 (x2 + 1) [1, 2, 0] [(0, .ref 24), (1, .ref 10), (2, .int (x2 + 1))] d_Filling_weigh_51 rfl rfl (by decide) rfl ?_
    refine zs_goto 15 d_Filling_weigh_54 (by decide) ?_
    exact h
theorem ex_Filling_weigh (hh : kCnt M ∧ kDpt M ∧ kSts M) : zEx m_Filling_weigh 0 0 [.ref 24, .ref 10] (SHP g X) M (qW g X (kFA M)) := by
  refine zEx_of _ (by decide) (by simp [Value.category]) (Nat.le_of_ble_eq_true rfl) rfl (v_Filling_weigh_0 g X M _ ⟨hh.1, fun M0 h0 => ?_⟩)
  obtain ⟨s, hs, es, hi⟩ := hh.2.2
  have L : ∀ n k M1, k + n = s → kFA M M1 → zRT m_Filling_weigh 0 0 15 [(0, .ref 24), (1, .ref 10), (2, .int (nI k))] [] (SHP g X) M1 (qW g X (kFA M)) := by
    intro n
    induction n with
    | zero =>
      intro k M1 hk hf
      have e10 : M1 10 = M 10 := hf.1 10 (by decide)
      exact v_Filling_weigh_15 g X _ _ _ ⟨fun _ => ⟨rfl, rfl, hf⟩, fun h => absurd (by rw [e10, es]; exact nI_le (by omega) (by omega)) h⟩
    | succ n ih =>
      intro k M1 hk hf
      have e10 : M1 10 = M 10 := hf.1 10 (by decide)
      have e11 : M1 11 = M 11 := hf.1 11 (by decide)
      have e19 : M1 19 = M 19 := hf.1 19 (by decide)
      refine v_Filling_weigh_15 g X _ _ _ ⟨fun h => absurd h (by rw [e10, es]; exact nI_ge (by omega) (by omega)), fun _ => ⟨vp_in_nI (by omega) (by decide), ⟨kCnt_ag e11 hh.1, kDpt_ag e10 hh.2.1⟩, ?_, ⟨kCnt_ag e11 hh.1, hf.2⟩, fun M5 h5 => ?_⟩⟩
      · rw [e19, nI_clamp (by omega)]
        exact hi k (by omega)
      · rw [nI_1]
        exact ih (k + 1) M5 (by omega) ⟨hf.1.tr h5.1, h5.2⟩
  refine L s 0 _ (by omega) ⟨h0.1.st (by decide), ?_⟩
  obtain ⟨a, ha, ea⟩ := h0.2
  exact ⟨a, ha, ea⟩
end zC3
end
section
/-! the rest of Filling; Bread -/
theorem kBh_congr {M M1 : zMem} (h : ∀ p, 10 ≤ p → p ≤ 17 → M1 p = M p) : kBh M1 = kBh M := by
  funext b w
  unfold kBh kCN
  rw [h 11 (by decide) (by decide), h 13 (by decide) (by decide), h 14 (by decide) (by decide), h 15 (by decide) (by decide)]
theorem kHO_congr {M M1 : zMem} (h : ∀ p, 10 ≤ p → p ≤ 17 → M1 p = M p) : kHO M1 = kHO M := by
  funext b
  unfold kHO kCN
  rw [h 11 (by decide) (by decide), h 12 (by decide) (by decide)]
theorem kCpl_congr {M M1 : zMem} (h : ∀ p, 10 ≤ p → p ≤ 17 → M1 p = M p) : kCpl M1 = kCpl M := by
  funext b
  unfold kCpl
  rw [h 17 (by decide) (by decide)]
theorem kWP_congr {M M1 : zMem} (h : ∀ p, 10 ≤ p → p ≤ 17 → M1 p = M p) : kWP M1 = kWP M := by
  funext b
  unfold kWP
  rw [kCpl_congr h]
theorem kRch_congr {M M1 : zMem} (h : ∀ p, 10 ≤ p → p ≤ 17 → M1 p = M p) : kRch M1 = kRch M := by
  have e : ∀ n a b, kRcn M1 n a b = kRcn M n a b := by
    intro n
    induction n with
    | zero => intro a b; rfl
    | succ n ih => intro a b; simp only [kRcn, ih, kBh_congr h, kTl, h 10 (by decide) (by decide)]
  funext t
  unfold kRch kDN
  rw [h 10 (by decide) (by decide), e]
theorem kTch_congr {M M1 : zMem} (h : ∀ p, 10 ≤ p → p ≤ 17 → M1 p = M p) : kTch M1 = kTch M := by
  funext b
  unfold kTch
  rw [kHO_congr h, kRch_congr h]
theorem kLwf_congr {M M1 : zMem} (h : ∀ p, 10 ≤ p → p ≤ 17 → M1 p = M p) : kLwf M1 = kLwf M := by
  funext b
  unfold kLwf kCN
  rw [kTch_congr h, kCpl_congr h, h 11 (by decide) (by decide)]
theorem kTnt_congr {M M1 : zMem} (h : ∀ p, 10 ≤ p → p ≤ 17 → M1 p = M p) : kTnt M1 = kTnt M := by
  funext b
  unfold kTnt kCN
  rw [kTch_congr h, h 11 (by decide) (by decide)]
def kFM (M : zMem) (i : Int32) : Int32 := if i < 0 then -6 else if M 24 2 ≤ i then -6 else if kWays M = 0 then -6 else kLO (M 26 (Int32.toNatClampNeg i))
def kFon (M : zMem) (r c : Int32) : Nat → Nat → Bool
  | _, 0 => false
  | k, n + 1 => if hb r (M 25 k) = true ∧ M 26 k &&& (c ^^^ (-1)) = 0 then true else kFon M r c (k + 1) n
def kFo (M : zMem) (r c : Int32) : Bool := kFon M r c 0 (Int32.toNatClampNeg (M 24 2))
def kBA (M : zMem) (t : Int32) : Int32 := kOr (fun k => if kHO M (kRch M t) &&& kCpl M (nI k) = 0 then (if kFo M (kRch M t) (kCpl M (nI k)) = true then 1 <<< (nI k &&& 31) else 0) else 1 <<< (nI k &&& 31)) 6
def kBSn (M : zMem) (r w : Int32) : Nat → Int32
  | 0 => w
  | n + 1 => kBSn M r w n ||| (if hb r (M 25 n) = true then M 26 n else 0)
def kBS (M : zMem) (t : Int32) : Int32 := kWP M (kBSn M (kRch M t) (kHO M (kRch M t)) (Int32.toNatClampNeg (M 24 2)))
def kLayn (M : zMem) (k : Nat) : zMem := zmr M 28 (fun j => if j < k then kLwf M (nI j) else M 28 j)
def kLay (M : zMem) : zMem := zmr (kLayn M 6) 29 (va_cpy (M 18) (M 29) 0 0 10)
def kSm (f : Nat → Int32) : Nat → Int32
  | 0 => 0
  | n + 1 => kSm f n + f n
def kThs (M : zMem) (men : Int32) : Int32 := kOr (fun k => if hb men (nI k) = true then M 28 k else 0) 6
def kLf (M : zMem) (men : Int32) : Int32 := kSm (fun k => if hb (kThs M men) (nI k) = true then M 29 k else 0) 10
def kMfn (M : zMem) (men : Int32) : Nat → Int32
  | 0 => 0
  | n + 1 => if nI (n + 1) &&& (men ^^^ (-1)) = 0 then mx (kMfn M men n) (bc (nI (n + 1)) - kLf M (nI (n + 1))) else kMfn M men n
def kMf (M : zMem) (men : Int32) : Int32 := bc men - kMfn M men 63
def kLsn (M : zMem) : Nat → Nat → Int32
  | _, 0 => -6
  | k, n + 1 => if bc (nI k) ≤ kLf M (nI k) then kLsn M (k + 1) n else nI k
def kLs (M : zMem) : Int32 := kLsn M 1 63
def kTmn (M : zMem) (x1 x2 x3 : Int32) : Nat → Nat → Int32 × zMem
  | _, 0 => (-6, M)
  | k, n + 1 => if hb (M 28 (Int32.toNatClampNeg x1)) (nI k) = true then (if M 29 k ≤ 0 then kTmn M x1 x2 x3 (k + 1) n else if 1 + kMf (zms M 29 k (M 29 k - 1)) x3 = x2 then (nI k, zms M 29 k (M 29 k - 1)) else kTmn M x1 x2 x3 (k + 1) n) else kTmn M x1 x2 x3 (k + 1) n
def kTm (M : zMem) (x1 x2 : Int32) : Int32 × zMem := kTmn M x1 x2 ((63 : Int32) &&& (-((2 : Int32) <<< (x1 &&& 31)))) 0 10
def kServen : Nat → Nat → Int32 → zMem → zMem
  | _, 0, _, M => M
  | k, n + 1, still, M => kServen (k + 1) n (if (kTm M (nI k) still).1 = -6 then still else still + (-1)) (zms (kTm M (nI k) still).2 30 k (kTm M (nI k) still).1)
def kServe (M : zMem) : zMem := kServen 0 6 (kMf M 63) M
def kEatn (M : zMem) (m : Int32) : Nat → Nat → Bool × zMem
  | _, 0 => (false, M)
  | k, n + 1 => if hb (M 28 (Int32.toNatClampNeg m)) (nI k) = true ∧ ¬ M 29 k ≤ 0 then (true, zms M 29 k (M 29 k - 1)) else kEatn M m (k + 1) n
def kEat (M : zMem) (m : Int32) : Bool × zMem := kEatn M m 0 10
def kLvn : Nat → Nat → Int32 → zMem → Int32 × zMem
  | 0, _, e, M => (e, M)
  | n + 1, x, e, M => kLvn n ((75 * x + 74) % 65537) (if (kEat M (nI ((75 * x + 74) % 65537 % 6))).1 = true then e + 1 else e) (kEat M (nI ((75 * x + 74) % 65537 % 6))).2
def kLive (M : zMem) (s n : Int32) : Int32 × zMem := kLvn (Int32.toNatClampNeg n) (Int32.toNatClampNeg s) 0 M
def kSeed (s n : Int32) : Prop := (∃ a : Nat, a ≤ 9999 ∧ s = nI a) ∧ ∃ b : Nat, b ≤ 99 ∧ n = nI b
section zC4
variable (g : Nat → Option Nat) (X : List zShp) (M : zMem)
theorem v_Filling_firstMan_0 (g : Nat → Option Nat) (X : List zShp) (M : zMem) (x1 : Int32) (R : zEnd) (h : ((x1 < 0) → (R (some (.int (-6))) (SHP g X) M)) ∧ ((¬ x1 < 0) → ((((M 24 2) ≤ x1) → (R (some (.int (-6))) (SHP g X) M)) ∧ ((¬ (M 24 2) ≤ x1) → ((kAsk M) ∧ (((¬ (kWays M) = 0) → ((vp_in x1 4) ∧ (R (some (.int (kLO (M 26 (Int32.toNatClampNeg x1))))) (SHP g X) M))) ∧ (((kWays M) = 0) → (R (some (.int (-6))) (SHP g X) M)))))))) : zRT m_Filling_firstMan 0 0 0 [(0, .ref 24), (1, .int x1)] [] (SHP g X) M R := by
  refine zs_iload_n 1 d_Filling_firstMan_0 rfl (List.mem_of_getElem? (i := 1) rfl) ?_
  refine zs_if_lt 19 d_Filling_firstMan_1 (by decide) (fun c1 => ?_) (fun c1 => ?_)
  · replace h := h.1 c1
    refine zs_bipush (-6) d_Filling_firstMan_19 (by decide) ?_
    exact zs_iret d_Filling_firstMan_21 rfl h
  · replace h := h.2 c1
    refine zs_iload_n 1 d_Filling_firstMan_4 rfl (List.mem_of_getElem? (i := 1) rfl) ?_
    refine zs_aload_n 0 d_Filling_firstMan_5 rfl (List.mem_of_getElem? (i := 0) rfl) ?_
    refine zs_get d_Filling_firstMan_6 gf_Filling_53 (sh_24 g X) rfl ?_
    refine zs_icmp_ge 19 d_Filling_firstMan_9 (by decide) (fun c2 => ?_) (fun c2 => ?_)
    · replace h := h.1 c2
      refine zs_bipush (-6) d_Filling_firstMan_19 (by decide) ?_
      exact zs_iret d_Filling_firstMan_21 rfl h
    · replace h := h.2 c2
      refine zs_aload_n 0 d_Filling_firstMan_12 rfl (List.mem_of_getElem? (i := 0) rfl) ?_
      obtain ⟨p3, h⟩ := h
      refine zs_callV (kc := 0) (ks := 0) (kc1 := 0) (ks1 := 0) (st := []) [] d_Filling_firstMan_13 lk_Filling_79 ⟨by decide, by decide⟩ rfl (sh_24 g X) rfl (Nat.le_of_ble_eq_true rfl) (ex_Filling_ways g X M p3) (fun v3 sh3 M3 hR => ?_)
      obtain ⟨rfl, rfl, rfl⟩ := hR
      refine zs_if_ne 22 d_Filling_firstMan_16 (by decide) (fun c4 => ?_) (fun c4 => ?_)
      · replace h := h.1 c4
        refine zs_aload_n 0 d_Filling_firstMan_22 rfl (List.mem_of_getElem? (i := 0) rfl) ?_
        refine zs_get d_Filling_firstMan_23 gf_Filling_15 (sh_24 g X) rfl ?_
        refine zs_iload_n 1 d_Filling_firstMan_26 rfl (List.mem_of_getElem? (i := 1) rfl) ?_
        obtain ⟨b5, h⟩ := h
        refine zs_iald d_Filling_firstMan_27 (sh_26 g X) b5 ?_
        refine zs_callSN (kc := 0) (ks := 0) (kc1 := 0) (ks1 := 0) (st := []) [.int (M 26 (Int32.toNatClampNeg x1))] d_Filling_firstMan_28 lk_Filling_83 ⟨by decide, by decide⟩ rfl (Nat.le_of_ble_eq_true rfl) (ex_O_leastOf g X M (M 26 (Int32.toNatClampNeg x1))) (fun v6 sh6 M6 hR => ?_)
        obtain ⟨rfl, rfl, rfl⟩ := hR
        exact zs_iret d_Filling_firstMan_31 rfl h
      · replace h := h.2 c4
        refine zs_bipush (-6) d_Filling_firstMan_19 (by decide) ?_
        exact zs_iret d_Filling_firstMan_21 rfl h
theorem ex_Filling_firstMan (i : Int32) (hh : kAsk M) : zEx m_Filling_firstMan 0 0 [.ref 24, .int i] (SHP g X) M (qF g X (kFM M i) M) := by
  refine zEx_of _ (by decide) (by simp [Value.category]) (Nat.le_of_ble_eq_true rfl) rfl (v_Filling_firstMan_0 g X M i _ ⟨fun h => qF_i (by simp [kFM, h]) rfl, fun h => ⟨fun h2 => qF_i (by simp [kFM, h, h2]) rfl, fun h2 => ⟨hh, fun h3 => ⟨?_, qF_i (by simp [kFM, h, h2, h3]) rfl⟩, fun h3 => qF_i (by simp [kFM, h, h2, h3]) rfl⟩⟩⟩)
  obtain ⟨a, ha, ea⟩ := hh
  obtain ⟨j, hj, e⟩ := nI_of h
  subst e
  rw [ea, nI_leI (by omega) hj] at h2
  exact vp_in_nI (by omega) (by decide)
theorem v_Filling_isForced_0 (g : Nat → Option Nat) (X : List zShp) (M : zMem) (x1 x2 : Int32) (R : zEnd) (h : zRT m_Filling_isForced 0 0 2 [(0, .ref 24), (1, .int x1), (2, .int x2), (3, .int 0)] [] (SHP g X) M R) : zRT m_Filling_isForced 0 0 0 [(0, .ref 24), (1, .int x1), (2, .int x2)] [] (SHP g X) M R := by
  refine zs_iconst 0 d_Filling_isForced_0 (by decide) ?_
  refine zs_istore_n2 3 [1, 2, 3, 0] [(0, .ref 24), (1, .int x1), (2, .int x2), (3, .int 0)] d_Filling_isForced_1 rfl (by decide) rfl ?_
  exact h
theorem v_Filling_isForced_2 (g : Nat → Option Nat) (X : List zShp) (M : zMem) (x1 x2 x3 : Int32) (R : zEnd) (h : (((M 24 2) ≤ x3) → (R (some (.int 0)) (SHP g X) M)) ∧ ((¬ (M 24 2) ≤ x3) → ((vp_in x3 4) ∧ ((((hb x1 (M 25 (Int32.toNatClampNeg x3))) = false) → (zRT m_Filling_isForced 0 0 2 [(0, .ref 24), (1, .int x1), (2, .int x2), (3, .int (x3 + 1))] [] (SHP g X) M R)) ∧ (((hb x1 (M 25 (Int32.toNatClampNeg x3))) = true) → (((¬ ((M 26 (Int32.toNatClampNeg x3)) &&& (x2 ^^^ (-1))) = 0) → (zRT m_Filling_isForced 0 0 2 [(0, .ref 24), (1, .int x1), (2, .int x2), (3, .int (x3 + 1))] [] (SHP g X) M R)) ∧ ((((M 26 (Int32.toNatClampNeg x3)) &&& (x2 ^^^ (-1))) = 0) → (R (some (.int 1)) (SHP g X) M)))))))) : zRT m_Filling_isForced 0 0 2 [(0, .ref 24), (1, .int x1), (2, .int x2), (3, .int x3)] [] (SHP g X) M R := by
  refine zs_iload_n 3 d_Filling_isForced_2 rfl (List.mem_of_getElem? (i := 3) rfl) ?_
  refine zs_aload_n 0 d_Filling_isForced_3 rfl (List.mem_of_getElem? (i := 0) rfl) ?_
  refine zs_get d_Filling_isForced_4 gf_Filling_53 (sh_24 g X) rfl ?_
  refine zs_icmp_ge 44 d_Filling_isForced_7 (by decide) (fun c1 => ?_) (fun c1 => ?_)
  · replace h := h.1 c1
    refine zs_iconst 0 d_Filling_isForced_44 (by decide) ?_
    exact zs_zret (by decide) d_Filling_isForced_45 rfl h
  · replace h := h.2 c1
    refine zs_iload_n 1 d_Filling_isForced_10 rfl (List.mem_of_getElem? (i := 1) rfl) ?_
    refine zs_aload_n 0 d_Filling_isForced_11 rfl (List.mem_of_getElem? (i := 0) rfl) ?_
    refine zs_get d_Filling_isForced_12 gf_Filling_9 (sh_24 g X) rfl ?_
    refine zs_iload_n 3 d_Filling_isForced_15 rfl (List.mem_of_getElem? (i := 3) rfl) ?_
    obtain ⟨b2, h⟩ := h
    refine zs_iald d_Filling_isForced_16 (sh_25 g X) b2 ?_
    refine zs_callSN (kc := 0) (ks := 0) (kc1 := 0) (ks1 := 0) (st := []) [.int x1, .int (M 25 (Int32.toNatClampNeg x3))] d_Filling_isForced_17 lk_Filling_70 ⟨by decide, by decide⟩ rfl (Nat.le_of_ble_eq_true rfl) (ex_O_has g X M x1 (M 25 (Int32.toNatClampNeg x3))) (fun v3 sh3 M3 hR => ?_)
    obtain ⟨rfl, rfl, rfl⟩ := hR
    refine zs_if_eq 38 d_Filling_isForced_20 (by decide) (fun c4 => ?_) (fun c4 => ?_)
    · replace h := h.1 (bI_0 c4)
      refine zs_iinc2 3 (x3 + 1) [1, 2, 3, 0] [(0, .ref 24), (1, .int x1), (2, .int x2), (3, .int (x3 + 1))] d_Filling_isForced_38 rfl rfl (by decide) rfl ?_
      refine zs_goto 2 d_Filling_isForced_41 (by decide) ?_
      exact h
    · replace h := h.2 (bI_1 c4)
      refine zs_aload_n 0 d_Filling_isForced_23 rfl (List.mem_of_getElem? (i := 0) rfl) ?_
      refine zs_get d_Filling_isForced_24 gf_Filling_15 (sh_24 g X) rfl ?_
      refine zs_iload_n 3 d_Filling_isForced_27 rfl (List.mem_of_getElem? (i := 3) rfl) ?_
      refine zs_iald d_Filling_isForced_28 (sh_26 g X) b2 ?_
      refine zs_iload_n 2 d_Filling_isForced_29 rfl (List.mem_of_getElem? (i := 2) rfl) ?_
      refine zs_iconst (-1) d_Filling_isForced_30 (by decide) ?_
      refine zs_ixor d_Filling_isForced_31 ?_
      refine zs_iand d_Filling_isForced_32 ?_
      refine zs_if_ne 38 d_Filling_isForced_33 (by decide) (fun c5 => ?_) (fun c5 => ?_)
      · replace h := h.1 c5
        refine zs_iinc2 3 (x3 + 1) [1, 2, 3, 0] [(0, .ref 24), (1, .int x1), (2, .int x2), (3, .int (x3 + 1))] d_Filling_isForced_38 rfl rfl (by decide) rfl ?_
        refine zs_goto 2 d_Filling_isForced_41 (by decide) ?_
        exact h
      · replace h := h.2 c5
        refine zs_iconst 1 d_Filling_isForced_36 (by decide) ?_
        exact zs_zret (by decide) d_Filling_isForced_37 rfl h
theorem ex_Filling_isForced (r c : Int32) (hh : kAsk M) : zEx m_Filling_isForced 0 0 [.ref 24, .int r, .int c] (SHP g X) M (qF g X (bI (kFo M r c)) M) := by
  refine zEx_of _ (by decide) (by simp [Value.category]) (Nat.le_of_ble_eq_true rfl) rfl (v_Filling_isForced_0 g X M r c _ ?_)
  obtain ⟨a, ha, ea⟩ := hh
  have L : ∀ n k, k + n = a → zRT m_Filling_isForced 0 0 2 [(0, .ref 24), (1, .int r), (2, .int c), (3, .int (nI k))] [] (SHP g X) M (qF g X (bI (kFon M r c k n)) M) := by
    intro n
    induction n with
    | zero =>
      intro k hk
      exact v_Filling_isForced_2 g X _ _ _ _ _ ⟨fun _ => qF_i rfl rfl, fun h => absurd (by rw [ea]; exact nI_le (by omega) (by omega)) h⟩
    | succ n ih =>
      intro k hk
      refine v_Filling_isForced_2 g X _ _ _ _ _ ⟨fun h => absurd h (by rw [ea]; exact nI_ge (by omega) (by omega)), fun _ => ⟨vp_in_nI (by omega) (by decide), ?_⟩⟩
      rw [nI_1, nI_clamp (by omega)]
      have ih := ih (k + 1) (by omega)
      refine ⟨fun h => ?_, fun h => ⟨fun h2 => ?_, fun h2 => qF_i (by rw [kFon, if_pos ⟨h, h2⟩]; rfl) rfl⟩⟩
      · rw [kFon, if_neg (fun q => by rw [h] at q; exact absurd q.1 (by decide))]
        exact ih
      · rw [kFon, if_neg (fun q => h2 q.2)]
        exact ih
  have ew : kFo M r c = kFon M r c 0 a := by unfold kFo; rw [ea, nI_clamp (by omega)]
  rw [ew]
  exact L a 0 (by omega)
theorem v_Filling_barredInAll_0 (g : Nat → Option Nat) (X : List zShp) (M : zMem) (x2 : Int32) (R : zEnd) (h : (kCnt M ∧ kDpt M) ∧ ((kCnt M) ∧ (zRT m_Filling_barredInAll 0 0 22 [(0, .ref 24), (1, .ref 10), (3, .int (kRch M x2)), (4, .int (kHO M (kRch M x2))), (5, .int 0), (6, .int 0)] [] (SHP g X) M R))) : zRT m_Filling_barredInAll 0 0 0 [(0, .ref 24), (1, .ref 10), (2, .int x2)] [] (SHP g X) M R := by
  refine zs_aload_n 1 d_Filling_barredInAll_0 rfl (List.mem_of_getElem? (i := 1) rfl) ?_
  refine zs_iload_n 2 d_Filling_barredInAll_1 rfl (List.mem_of_getElem? (i := 2) rfl) ?_
  obtain ⟨p1, h⟩ := h
  refine zs_callV (kc := 0) (ks := 0) (kc1 := 0) (ks1 := 0) (st := []) [.int x2] d_Filling_barredInAll_2 lk_Filling_39 ⟨by decide, by decide⟩ rfl (sh_10 g X) rfl (Nat.le_of_ble_eq_true rfl) (ex_Town_reach g X M x2 p1) (fun v1 sh1 M1 hR => ?_)
  obtain ⟨rfl, rfl, rfl⟩ := hR
  refine zs_istore_n2 3 [1, 2, 3, 0] [(0, .ref 24), (1, .ref 10), (2, .int x2), (3, .int (kRch M x2))] d_Filling_barredInAll_5 rfl (by decide) rfl ?_
  refine zs_aload_n 1 d_Filling_barredInAll_6 rfl (List.mem_of_getElem? (i := 1) rfl) ?_
  refine zs_get d_Filling_barredInAll_7 gf_Filling_18 (sh_10 g X) rfl ?_
  refine zs_iload_n 3 d_Filling_barredInAll_10 rfl (List.mem_of_getElem? (i := 3) rfl) ?_
  obtain ⟨p2, h⟩ := h
  refine zs_callV (kc := 0) (ks := 0) (kc1 := 0) (ks1 := 0) (st := []) [.int (kRch M x2)] d_Filling_barredInAll_11 lk_Filling_67 ⟨by decide, by decide⟩ rfl (sh_11 g X) rfl (Nat.le_of_ble_eq_true rfl) (ex_Pages_handsOf g X M (kRch M x2) p2) (fun v2 sh2 M2 hR => ?_)
  obtain ⟨rfl, rfl, rfl⟩ := hR
  refine zs_istore2 [1, 2, 3, 4, 0] [(0, .ref 24), (1, .ref 10), (2, .int x2), (3, .int (kRch M x2)), (4, .int (kHO M (kRch M x2)))] d_Filling_barredInAll_14 (by decide) rfl ?_
  refine zs_iconst 0 d_Filling_barredInAll_16 (by decide) ?_
  refine zs_istore2 [1, 2, 3, 4, 5, 0] [(0, .ref 24), (1, .ref 10), (2, .int x2), (3, .int (kRch M x2)), (4, .int (kHO M (kRch M x2))), (5, .int 0)] d_Filling_barredInAll_17 (by decide) rfl ?_
  refine zs_iconst 0 d_Filling_barredInAll_19 (by decide) ?_
  refine zs_istore2 [1, 2, 3, 4, 5, 6, 0] [(0, .ref 24), (1, .ref 10), (2, .int x2), (3, .int (kRch M x2)), (4, .int (kHO M (kRch M x2))), (5, .int 0), (6, .int 0)] d_Filling_barredInAll_20 (by decide) rfl ?_
  exact zRT_sub [0, 1, 3, 4, 5, 6] rfl h
theorem v_Filling_barredInAll_22 (g : Nat → Option Nat) (X : List zShp) (M : zMem) (x3 x4 x5 x6 : Int32) (R : zEnd) (h : ((6 ≤ x6) → (R (some (.int x5)) (SHP g X) M)) ∧ ((¬ 6 ≤ x6) → ((vp_in x6 6) ∧ (((¬ (x4 &&& (kCpl M x6)) = 0) → (zRT m_Filling_barredInAll 0 0 22 [(0, .ref 24), (1, .ref 10), (3, .int x3), (4, .int x4), (5, .int (x5 ||| ((1 : Int32) <<< (x6 &&& 31)))), (6, .int (x6 + 1))] [] (SHP g X) M R)) ∧ (((x4 &&& (kCpl M x6)) = 0) → ((kAsk M) ∧ ((((kFo M x3 (kCpl M x6)) = false) → (zRT m_Filling_barredInAll 0 0 22 [(0, .ref 24), (1, .ref 10), (3, .int x3), (4, .int x4), (5, .int x5), (6, .int (x6 + 1))] [] (SHP g X) M R)) ∧ (((kFo M x3 (kCpl M x6)) = true) → (zRT m_Filling_barredInAll 0 0 22 [(0, .ref 24), (1, .ref 10), (3, .int x3), (4, .int x4), (5, .int (x5 ||| ((1 : Int32) <<< (x6 &&& 31)))), (6, .int (x6 + 1))] [] (SHP g X) M R))))))))) : zRT m_Filling_barredInAll 0 0 22 [(0, .ref 24), (1, .ref 10), (3, .int x3), (4, .int x4), (5, .int x5), (6, .int x6)] [] (SHP g X) M R := by
  refine zs_iload d_Filling_barredInAll_22 (List.mem_of_getElem? (i := 5) rfl) ?_
  refine zs_bipush 6 d_Filling_barredInAll_24 (by decide) ?_
  refine zs_icmp_ge 70 d_Filling_barredInAll_26 (by decide) (fun c1 => ?_) (fun c1 => ?_)
  · replace h := h.1 c1
    refine zs_iload d_Filling_barredInAll_70 (List.mem_of_getElem? (i := 4) rfl) ?_
    exact zs_iret d_Filling_barredInAll_72 rfl h
  · replace h := h.2 c1
    refine zs_aload_n 1 d_Filling_barredInAll_29 rfl (List.mem_of_getElem? (i := 1) rfl) ?_
    refine zs_iload d_Filling_barredInAll_30 (List.mem_of_getElem? (i := 5) rfl) ?_
    obtain ⟨p2, h⟩ := h
    refine zs_callV (kc := 0) (ks := 0) (kc1 := 0) (ks1 := 0) (st := []) [.int x6] d_Filling_barredInAll_32 lk_Filling_46 ⟨by decide, by decide⟩ rfl (sh_10 g X) rfl (Nat.le_of_ble_eq_true rfl) (ex_Town_couple g X M x6 p2) (fun v2 sh2 M2 hR => ?_)
    obtain ⟨rfl, rfl, rfl⟩ := hR
    refine zs_istore2 [1, 2, 3, 4, 5, 6, 0] [(0, .ref 24), (1, .ref 10), (3, .int x3), (4, .int x4), (5, .int x5), (6, .int x6), (7, .int (kCpl M x6))] d_Filling_barredInAll_35 (by decide) rfl ?_
    refine zs_iload d_Filling_barredInAll_37 (List.mem_of_getElem? (i := 3) rfl) ?_
    refine zs_iload d_Filling_barredInAll_39 (List.mem_of_getElem? (i := 6) rfl) ?_
    refine zs_iand d_Filling_barredInAll_41 ?_
    refine zs_if_ne 55 d_Filling_barredInAll_42 (by decide) (fun c3 => ?_) (fun c3 => ?_)
    · replace h := h.1 c3
      refine zs_iload d_Filling_barredInAll_55 (List.mem_of_getElem? (i := 4) rfl) ?_
      refine zs_iconst 1 d_Filling_barredInAll_57 (by decide) ?_
      refine zs_iload d_Filling_barredInAll_58 (List.mem_of_getElem? (i := 5) rfl) ?_
      refine zs_ishl d_Filling_barredInAll_60 ?_
      refine zs_ior d_Filling_barredInAll_61 ?_
      refine zs_istore2 [1, 2, 3, 4, 0, 5, 6] [(0, .ref 24), (1, .ref 10), (3, .int x3), (4, .int x4), (5, .int (x5 ||| ((1 : Int32) <<< (x6 &&& 31)))), (6, .int x6), (7, .int (kCpl M x6))] d_Filling_barredInAll_62 (by decide) rfl ?_
      refine zs_iinc2 5 (x6 + 1) [1, 2, 3, 4, 5, 0, 6] [(0, .ref 24), (1, .ref 10), (3, .int x3), (4, .int x4), (5, .int (x5 ||| ((1 : Int32) <<< (x6 &&& 31)))), (6, .int (x6 + 1)), (7, .int (kCpl M x6))] d_Filling_barredInAll_64 rfl rfl (by decide) rfl ?_
      refine zs_goto 22 d_Filling_barredInAll_67 (by decide) ?_
      exact zRT_sub [0, 1, 2, 3, 4, 5] rfl h
    · replace h := h.2 c3
      refine zs_aload_n 0 d_Filling_barredInAll_45 rfl (List.mem_of_getElem? (i := 0) rfl) ?_
      refine zs_iload_n 3 d_Filling_barredInAll_46 rfl (List.mem_of_getElem? (i := 2) rfl) ?_
      refine zs_iload d_Filling_barredInAll_47 (List.mem_of_getElem? (i := 6) rfl) ?_
      obtain ⟨p4, h⟩ := h
      refine zs_callV (kc := 0) (ks := 0) (kc1 := 0) (ks1 := 0) (st := []) [.int x3, .int (kCpl M x6)] d_Filling_barredInAll_49 lk_Filling_86 ⟨by decide, by decide⟩ rfl (sh_24 g X) rfl (Nat.le_of_ble_eq_true rfl) (ex_Filling_isForced g X M x3 (kCpl M x6) p4) (fun v4 sh4 M4 hR => ?_)
      obtain ⟨rfl, rfl, rfl⟩ := hR
      refine zs_if_eq 64 d_Filling_barredInAll_52 (by decide) (fun c5 => ?_) (fun c5 => ?_)
      · replace h := h.1 (bI_0 c5)
        refine zs_iinc2 5 (x6 + 1) [1, 2, 3, 4, 5, 0, 6] [(0, .ref 24), (1, .ref 10), (3, .int x3), (4, .int x4), (5, .int x5), (6, .int (x6 + 1)), (7, .int (kCpl M x6))] d_Filling_barredInAll_64 rfl rfl (by decide) rfl ?_
        refine zs_goto 22 d_Filling_barredInAll_67 (by decide) ?_
        exact zRT_sub [0, 1, 2, 3, 4, 5] rfl h
      · replace h := h.2 (bI_1 c5)
        refine zs_iload d_Filling_barredInAll_55 (List.mem_of_getElem? (i := 4) rfl) ?_
        refine zs_iconst 1 d_Filling_barredInAll_57 (by decide) ?_
        refine zs_iload d_Filling_barredInAll_58 (List.mem_of_getElem? (i := 5) rfl) ?_
        refine zs_ishl d_Filling_barredInAll_60 ?_
        refine zs_ior d_Filling_barredInAll_61 ?_
        refine zs_istore2 [1, 2, 3, 4, 0, 5, 6] [(0, .ref 24), (1, .ref 10), (3, .int x3), (4, .int x4), (5, .int (x5 ||| ((1 : Int32) <<< (x6 &&& 31)))), (6, .int x6), (7, .int (kCpl M x6))] d_Filling_barredInAll_62 (by decide) rfl ?_
        refine zs_iinc2 5 (x6 + 1) [1, 2, 3, 4, 5, 0, 6] [(0, .ref 24), (1, .ref 10), (3, .int x3), (4, .int x4), (5, .int (x5 ||| ((1 : Int32) <<< (x6 &&& 31)))), (6, .int (x6 + 1)), (7, .int (kCpl M x6))] d_Filling_barredInAll_64 rfl rfl (by decide) rfl ?_
        refine zs_goto 22 d_Filling_barredInAll_67 (by decide) ?_
        exact zRT_sub [0, 1, 2, 3, 4, 5] rfl h
theorem ex_Filling_barredInAll (t : Int32) (hh : kCnt M ∧ kDpt M ∧ kAsk M) : zEx m_Filling_barredInAll 0 0 [.ref 24, .ref 10, .int t] (SHP g X) M (qF g X (kBA M t) M) := by
  refine zEx_of _ (by decide) (by simp [Value.category]) (Nat.le_of_ble_eq_true rfl) rfl (v_Filling_barredInAll_0 g X M t _ ⟨⟨hh.1, hh.2.1⟩, hh.1, ?_⟩)
  have L : ∀ n k, k + n = 6 → zRT m_Filling_barredInAll 0 0 22 [(0, .ref 24), (1, .ref 10), (3, .int (kRch M t)), (4, .int (kHO M (kRch M t))), (5, .int (kOr (fun k => if kHO M (kRch M t) &&& kCpl M (nI k) = 0 then (if kFo M (kRch M t) (kCpl M (nI k)) = true then 1 <<< (nI k &&& 31) else 0) else 1 <<< (nI k &&& 31)) k)), (6, .int (nI k))] [] (SHP g X) M (qF g X (kBA M t) M) := by
    intro n
    induction n with
    | zero =>
      intro k hk
      have e : k = 6 := by omega
      subst e
      exact v_Filling_barredInAll_22 g X _ _ _ _ _ _ ⟨fun _ => qF_i rfl rfl, fun h => absurd (nI_le (a := 6) (by omega) (by omega)) h⟩
    | succ n ih =>
      intro k hk
      refine v_Filling_barredInAll_22 g X _ _ _ _ _ _ ⟨fun h => absurd h (nI_ge (b := 6) (by omega) (by omega)), fun _ => ⟨vp_in_nI (by omega) (by decide), ?_⟩⟩
      rw [nI_1]
      have ih := ih (k + 1) (by omega)
      refine ⟨fun h => ?_, fun h => ⟨hh.2.2, fun h2 => ?_, fun h2 => ?_⟩⟩
      · simpa [kOr, h] using ih
      · simpa [kOr, h, h2] using ih
      · simpa [kOr, h, h2] using ih
  exact L 6 0 rfl
theorem v_Filling_barredInSome_0 (g : Nat → Option Nat) (X : List zShp) (M : zMem) (x2 : Int32) (R : zEnd) (h : (kCnt M ∧ kDpt M) ∧ ((kCnt M) ∧ (zRT m_Filling_barredInSome 0 0 19 [(0, .ref 24), (1, .ref 10), (3, .int (kRch M x2)), (4, .int (kHO M (kRch M x2))), (5, .int 0)] [] (SHP g X) M R))) : zRT m_Filling_barredInSome 0 0 0 [(0, .ref 24), (1, .ref 10), (2, .int x2)] [] (SHP g X) M R := by
  refine zs_aload_n 1 d_Filling_barredInSome_0 rfl (List.mem_of_getElem? (i := 1) rfl) ?_
  refine zs_iload_n 2 d_Filling_barredInSome_1 rfl (List.mem_of_getElem? (i := 2) rfl) ?_
  obtain ⟨p1, h⟩ := h
  refine zs_callV (kc := 0) (ks := 0) (kc1 := 0) (ks1 := 0) (st := []) [.int x2] d_Filling_barredInSome_2 lk_Filling_39 ⟨by decide, by decide⟩ rfl (sh_10 g X) rfl (Nat.le_of_ble_eq_true rfl) (ex_Town_reach g X M x2 p1) (fun v1 sh1 M1 hR => ?_)
  obtain ⟨rfl, rfl, rfl⟩ := hR
  refine zs_istore_n2 3 [1, 2, 3, 0] [(0, .ref 24), (1, .ref 10), (2, .int x2), (3, .int (kRch M x2))] d_Filling_barredInSome_5 rfl (by decide) rfl ?_
  refine zs_aload_n 1 d_Filling_barredInSome_6 rfl (List.mem_of_getElem? (i := 1) rfl) ?_
  refine zs_get d_Filling_barredInSome_7 gf_Filling_18 (sh_10 g X) rfl ?_
  refine zs_iload_n 3 d_Filling_barredInSome_10 rfl (List.mem_of_getElem? (i := 3) rfl) ?_
  obtain ⟨p2, h⟩ := h
  refine zs_callV (kc := 0) (ks := 0) (kc1 := 0) (ks1 := 0) (st := []) [.int (kRch M x2)] d_Filling_barredInSome_11 lk_Filling_67 ⟨by decide, by decide⟩ rfl (sh_11 g X) rfl (Nat.le_of_ble_eq_true rfl) (ex_Pages_handsOf g X M (kRch M x2) p2) (fun v2 sh2 M2 hR => ?_)
  obtain ⟨rfl, rfl, rfl⟩ := hR
  refine zs_istore2 [1, 2, 3, 4, 0] [(0, .ref 24), (1, .ref 10), (2, .int x2), (3, .int (kRch M x2)), (4, .int (kHO M (kRch M x2)))] d_Filling_barredInSome_14 (by decide) rfl ?_
  refine zs_iconst 0 d_Filling_barredInSome_16 (by decide) ?_
  refine zs_istore2 [1, 2, 3, 4, 5, 0] [(0, .ref 24), (1, .ref 10), (2, .int x2), (3, .int (kRch M x2)), (4, .int (kHO M (kRch M x2))), (5, .int 0)] d_Filling_barredInSome_17 (by decide) rfl ?_
  exact zRT_sub [0, 1, 3, 4, 5] rfl h
theorem v_Filling_barredInSome_19 (g : Nat → Option Nat) (X : List zShp) (M : zMem) (x3 x4 x5 : Int32) (R : zEnd) (h : (((M 24 2) ≤ x5) → (R (some (.int (kWP M x4))) (SHP g X) M)) ∧ ((¬ (M 24 2) ≤ x5) → ((vp_in x5 4) ∧ ((((hb x3 (M 25 (Int32.toNatClampNeg x5))) = false) → (zRT m_Filling_barredInSome 0 0 19 [(0, .ref 24), (1, .ref 10), (3, .int x3), (4, .int x4), (5, .int (x5 + 1))] [] (SHP g X) M R)) ∧ (((hb x3 (M 25 (Int32.toNatClampNeg x5))) = true) → (zRT m_Filling_barredInSome 0 0 19 [(0, .ref 24), (1, .ref 10), (3, .int x3), (4, .int (x4 ||| (M 26 (Int32.toNatClampNeg x5)))), (5, .int (x5 + 1))] [] (SHP g X) M R)))))) : zRT m_Filling_barredInSome 0 0 19 [(0, .ref 24), (1, .ref 10), (3, .int x3), (4, .int x4), (5, .int x5)] [] (SHP g X) M R := by
  refine zs_iload d_Filling_barredInSome_19 (List.mem_of_getElem? (i := 4) rfl) ?_
  refine zs_aload_n 0 d_Filling_barredInSome_21 rfl (List.mem_of_getElem? (i := 0) rfl) ?_
  refine zs_get d_Filling_barredInSome_22 gf_Filling_53 (sh_24 g X) rfl ?_
  refine zs_icmp_ge 60 d_Filling_barredInSome_25 (by decide) (fun c1 => ?_) (fun c1 => ?_)
  · replace h := h.1 c1
    refine zs_aload_n 1 d_Filling_barredInSome_60 rfl (List.mem_of_getElem? (i := 1) rfl) ?_
    refine zs_iload d_Filling_barredInSome_61 (List.mem_of_getElem? (i := 3) rfl) ?_
    refine zs_callV (kc := 0) (ks := 0) (kc1 := 0) (ks1 := 0) (st := []) [.int x4] d_Filling_barredInSome_63 lk_Filling_89 ⟨by decide, by decide⟩ rfl (sh_10 g X) rfl (Nat.le_of_ble_eq_true rfl) (ex_Town_withPartners g X M x4) (fun v2 sh2 M2 hR => ?_)
    obtain ⟨rfl, rfl, rfl⟩ := hR
    exact zs_iret d_Filling_barredInSome_66 rfl h
  · replace h := h.2 c1
    refine zs_iload_n 3 d_Filling_barredInSome_28 rfl (List.mem_of_getElem? (i := 2) rfl) ?_
    refine zs_aload_n 0 d_Filling_barredInSome_29 rfl (List.mem_of_getElem? (i := 0) rfl) ?_
    refine zs_get d_Filling_barredInSome_30 gf_Filling_9 (sh_24 g X) rfl ?_
    refine zs_iload d_Filling_barredInSome_33 (List.mem_of_getElem? (i := 4) rfl) ?_
    obtain ⟨b3, h⟩ := h
    refine zs_iald d_Filling_barredInSome_35 (sh_25 g X) b3 ?_
    refine zs_callSN (kc := 0) (ks := 0) (kc1 := 0) (ks1 := 0) (st := []) [.int x3, .int (M 25 (Int32.toNatClampNeg x5))] d_Filling_barredInSome_36 lk_Filling_70 ⟨by decide, by decide⟩ rfl (Nat.le_of_ble_eq_true rfl) (ex_O_has g X M x3 (M 25 (Int32.toNatClampNeg x5))) (fun v4 sh4 M4 hR => ?_)
    obtain ⟨rfl, rfl, rfl⟩ := hR
    refine zs_if_eq 54 d_Filling_barredInSome_39 (by decide) (fun c5 => ?_) (fun c5 => ?_)
    · replace h := h.1 (bI_0 c5)
      refine zs_iinc2 4 (x5 + 1) [1, 2, 3, 4, 0] [(0, .ref 24), (1, .ref 10), (3, .int x3), (4, .int x4), (5, .int (x5 + 1))] d_Filling_barredInSome_54 rfl rfl (by decide) rfl ?_
      refine zs_goto 19 d_Filling_barredInSome_57 (by decide) ?_
      exact h
    · replace h := h.2 (bI_1 c5)
      refine zs_iload d_Filling_barredInSome_42 (List.mem_of_getElem? (i := 3) rfl) ?_
      refine zs_aload_n 0 d_Filling_barredInSome_44 rfl (List.mem_of_getElem? (i := 0) rfl) ?_
      refine zs_get d_Filling_barredInSome_45 gf_Filling_15 (sh_24 g X) rfl ?_
      refine zs_iload d_Filling_barredInSome_48 (List.mem_of_getElem? (i := 4) rfl) ?_
      refine zs_iald d_Filling_barredInSome_50 (sh_26 g X) b3 ?_
      refine zs_ior d_Filling_barredInSome_51 ?_
      refine zs_istore2 [1, 2, 3, 0, 4] [(0, .ref 24), (1, .ref 10), (3, .int x3), (4, .int (x4 ||| (M 26 (Int32.toNatClampNeg x5)))), (5, .int x5)] d_Filling_barredInSome_52 (by decide) rfl ?_
      refine zs_iinc2 4 (x5 + 1) [1, 2, 3, 4, 0] [(0, .ref 24), (1, .ref 10), (3, .int x3), (4, .int (x4 ||| (M 26 (Int32.toNatClampNeg x5)))), (5, .int (x5 + 1))] d_Filling_barredInSome_54 rfl rfl (by decide) rfl ?_
      refine zs_goto 19 d_Filling_barredInSome_57 (by decide) ?_
      exact h
theorem ex_Filling_barredInSome (t : Int32) (hh : kCnt M ∧ kDpt M ∧ kAsk M) : zEx m_Filling_barredInSome 0 0 [.ref 24, .ref 10, .int t] (SHP g X) M (qF g X (kBS M t) M) := by
  refine zEx_of _ (by decide) (by simp [Value.category]) (Nat.le_of_ble_eq_true rfl) rfl (v_Filling_barredInSome_0 g X M t _ ⟨⟨hh.1, hh.2.1⟩, hh.1, ?_⟩)
  obtain ⟨a, ha, ea⟩ := hh.2.2
  have ew : kBS M t = kWP M (kBSn M (kRch M t) (kHO M (kRch M t)) a) := by unfold kBS; rw [ea, nI_clamp (by omega)]
  rw [ew]
  have L : ∀ n k, k + n = a → zRT m_Filling_barredInSome 0 0 19 [(0, .ref 24), (1, .ref 10), (3, .int (kRch M t)), (4, .int (kBSn M (kRch M t) (kHO M (kRch M t)) k)), (5, .int (nI k))] [] (SHP g X) M (qF g X (kWP M (kBSn M (kRch M t) (kHO M (kRch M t)) a)) M) := by
    intro n
    induction n with
    | zero =>
      intro k hk
      have e : k = a := by omega
      subst e
      exact v_Filling_barredInSome_19 g X _ _ _ _ _ ⟨fun _ => qF_i rfl rfl, fun h => absurd (by rw [ea]; exact nI_le (by omega) (by omega)) h⟩
    | succ n ih =>
      intro k hk
      refine v_Filling_barredInSome_19 g X _ _ _ _ _ ⟨fun h => absurd h (by rw [ea]; exact nI_ge (by omega) (by omega)), fun _ => ⟨vp_in_nI (by omega) (by decide), ?_⟩⟩
      rw [nI_1, nI_clamp (by omega)]
      have ih := ih (k + 1) (by omega)
      refine ⟨fun h => ?_, fun h => ?_⟩
      · simpa [kBSn, h] using ih
      · simpa [kBSn, h] using ih
  exact L a 0 (by omega)
theorem v_Bread_layOut_0 (g : Nat → Option Nat) (X : List zShp) (M : zMem) (R : zEnd) (h : zRT m_Bread_layOut 0 0 2 [(0, .ref 27), (1, .ref 10), (2, .int 0)] [] (SHP g X) M R) : zRT m_Bread_layOut 0 0 0 [(0, .ref 27), (1, .ref 10)] [] (SHP g X) M R := by
  refine zs_iconst 0 d_Bread_layOut_0 (by decide) ?_
  refine zs_istore_n2 2 [1, 2, 0] [(0, .ref 27), (1, .ref 10), (2, .int 0)] d_Bread_layOut_1 rfl (by decide) rfl ?_
  exact h
theorem v_Bread_layOut_2 (g : Nat → Option Nat) (X : List zShp) (M : zMem) (x2 : Int32) (R : zEnd) (h : ((6 ≤ x2) → (R none (SHP g X) (zmr M 29 (va_cpy (M 18) (M 29) (0 : Int32).toNatClampNeg (0 : Int32).toNatClampNeg (10 : Int32).toNatClampNeg)))) ∧ ((¬ 6 ≤ x2) → ((kCnt M ∧ kDpt M ∧ vp_in x2 6) ∧ ((vp_in x2 6) ∧ (zRT m_Bread_layOut 0 0 2 [(0, .ref 27), (1, .ref 10), (2, .int (x2 + 1))] [] (SHP g X) (zms M 28 (Int32.toNatClampNeg x2) (kLwf M x2)) R))))) : zRT m_Bread_layOut 0 0 2 [(0, .ref 27), (1, .ref 10), (2, .int x2)] [] (SHP g X) M R := by
  refine zs_iload_n 2 d_Bread_layOut_2 rfl (List.mem_of_getElem? (i := 2) rfl) ?_
  refine zs_bipush 6 d_Bread_layOut_3 (by decide) ?_
  refine zs_icmp_ge 25 d_Bread_layOut_5 (by decide) (fun c1 => ?_) (fun c1 => ?_)
  · replace h := h.1 c1
    refine zs_aload_n 1 d_Bread_layOut_25 rfl (List.mem_of_getElem? (i := 1) rfl) ?_
    refine zs_get d_Bread_layOut_26 gf_Bread_27 (sh_10 g X) rfl ?_
    refine zs_iconst 0 d_Bread_layOut_29 (by decide) ?_
    refine zs_aload_n 0 d_Bread_layOut_30 rfl (List.mem_of_getElem? (i := 0) rfl) ?_
    refine zs_get d_Bread_layOut_31 gf_Bread_15 (sh_27 g X) rfl ?_
    refine zs_iconst 0 d_Bread_layOut_34 (by decide) ?_
    refine zs_bipush 10 d_Bread_layOut_35 (by decide) ?_
    refine zs_copy (st := []) d_Bread_layOut_37 (by decide +kernel) (by decide +kernel) (sh_18 g X) (sh_29 g X) (by decide) (by decide) (by decide) (by decide) (by decide) ?_
    exact zs_vret d_Bread_layOut_40 rfl h
  · replace h := h.2 c1
    refine zs_aload_n 0 d_Bread_layOut_8 rfl (List.mem_of_getElem? (i := 0) rfl) ?_
    refine zs_get d_Bread_layOut_9 gf_Bread_9 (sh_27 g X) rfl ?_
    refine zs_iload_n 2 d_Bread_layOut_12 rfl (List.mem_of_getElem? (i := 2) rfl) ?_
    refine zs_aload_n 1 d_Bread_layOut_13 rfl (List.mem_of_getElem? (i := 1) rfl) ?_
    refine zs_iload_n 2 d_Bread_layOut_14 rfl (List.mem_of_getElem? (i := 2) rfl) ?_
    obtain ⟨p2, h⟩ := h
    refine zs_callV (kc := 0) (ks := 0) (kc1 := 0) (ks1 := 0) (st := [.int x2, .ref 28]) [.int x2] d_Bread_layOut_15 lk_Bread_21 ⟨by decide, by decide⟩ rfl (sh_10 g X) rfl (Nat.le_of_ble_eq_true rfl) (ex_Town_lawfulThings g X M x2 p2) (fun v2 sh2 M2 hR => ?_)
    obtain ⟨rfl, rfl, rfl⟩ := hR
    obtain ⟨b3, h⟩ := h
    refine zs_iast d_Bread_layOut_18 (sh_28 g X) b3 ?_
    refine zs_iinc2 2 (x2 + 1) [1, 2, 0] [(0, .ref 27), (1, .ref 10), (2, .int (x2 + 1))] d_Bread_layOut_19 rfl rfl (by decide) rfl ?_
    refine zs_goto 2 d_Bread_layOut_22 (by decide) ?_
    exact h
theorem ex_Bread_layOut (hh : kCnt M ∧ kDpt M) : zEx m_Bread_layOut 0 0 [.ref 27, .ref 10] (SHP g X) M (qV g X (kLay M)) := by
  refine zEx_of _ (by decide) (by simp [Value.category]) (Nat.le_of_ble_eq_true rfl) rfl (v_Bread_layOut_0 g X M _ ?_)
  have L : ∀ n k, k + n = 6 → zRT m_Bread_layOut 0 0 2 [(0, .ref 27), (1, .ref 10), (2, .int (nI k))] [] (SHP g X) (kLayn M k) (qV g X (kLay M)) := by
    intro n
    induction n with
    | zero =>
      intro k hk
      have e : k = 6 := by omega
      subst e
      refine v_Bread_layOut_2 g X _ _ _ ⟨fun _ => ⟨rfl, rfl, ?_⟩, fun h => absurd (nI_le (a := 6) (by omega) (by omega)) h⟩
      rfl
    | succ n ih =>
      intro k hk
      have hr : ∀ p, 10 ≤ p → p ≤ 17 → kLayn M k p = M p := fun p h1 h2 => zmr_ne M 28 _ p (by omega)
      refine v_Bread_layOut_2 g X _ _ _ ⟨fun h => absurd h (nI_ge (b := 6) (by omega) (by omega)), fun _ => ⟨⟨kCnt_ag (hr 11 (by decide) (by decide)) hh.1, kDpt_ag (hr 10 (by decide) (by decide)) hh.2, vp_in_nI (by omega) (by decide)⟩, vp_in_nI (by omega) (by decide), ?_⟩⟩
      rw [nI_1, nI_clamp (by omega), kLwf_congr hr]
      have e : zms (kLayn M k) 28 k (kLwf M (nI k)) = kLayn M (k + 1) := by
        unfold kLayn
        rw [zms_zmr]
        congr 1
        funext j
        show (if j = k then kLwf M (nI k) else if j < k then kLwf M (nI j) else M 28 j) = if j < k + 1 then kLwf M (nI j) else M 28 j
        by_cases h1 : j = k
        · subst h1; simp
        · by_cases h2 : j < k
          · rw [if_neg h1, if_pos h2, if_pos (by omega)]
          · rw [if_neg h1, if_neg h2, if_neg (by omega)]
      rw [e]
      exact ih (k + 1) (by omega)
  have e0 : kLayn M 0 = M := by
    unfold kLayn
    have : (fun j => if j < 0 then kLwf M (nI j) else M 28 j) = M 28 := by funext j; simp
    rw [this, zmr_self]
  have h0 := L 6 0 rfl
  rw [e0] at h0
  exact h0
theorem v_Bread_loavesFor_0 (g : Nat → Option Nat) (X : List zShp) (M : zMem) (x1 : Int32) (R : zEnd) (h : zRT m_Bread_loavesFor 0 0 4 [(0, .ref 27), (1, .int x1), (2, .int 0), (3, .int 0)] [] (SHP g X) M R) : zRT m_Bread_loavesFor 0 0 0 [(0, .ref 27), (1, .int x1)] [] (SHP g X) M R := by
  refine zs_iconst 0 d_Bread_loavesFor_0 (by decide) ?_
  refine zs_istore_n2 2 [1, 2, 0] [(0, .ref 27), (1, .int x1), (2, .int 0)] d_Bread_loavesFor_1 rfl (by decide) rfl ?_
  refine zs_iconst 0 d_Bread_loavesFor_2 (by decide) ?_
  refine zs_istore_n2 3 [1, 2, 3, 0] [(0, .ref 27), (1, .int x1), (2, .int 0), (3, .int 0)] d_Bread_loavesFor_3 rfl (by decide) rfl ?_
  exact h
theorem v_Bread_loavesFor_4 (g : Nat → Option Nat) (X : List zShp) (M : zMem) (x1 x2 x3 : Int32) (R : zEnd) (h : ((6 ≤ x3) → (zRT m_Bread_loavesFor 0 0 38 [(0, .ref 27), (2, .int x2), (3, .int 0), (4, .int 0)] [] (SHP g X) M R)) ∧ ((¬ 6 ≤ x3) → ((((hb x1 x3) = false) → (zRT m_Bread_loavesFor 0 0 4 [(0, .ref 27), (1, .int x1), (2, .int x2), (3, .int (x3 + 1))] [] (SHP g X) M R)) ∧ (((hb x1 x3) = true) → ((vp_in x3 6) ∧ (zRT m_Bread_loavesFor 0 0 4 [(0, .ref 27), (1, .int x1), (2, .int (x2 ||| (M 28 (Int32.toNatClampNeg x3)))), (3, .int (x3 + 1))] [] (SHP g X) M R)))))) : zRT m_Bread_loavesFor 0 0 4 [(0, .ref 27), (1, .int x1), (2, .int x2), (3, .int x3)] [] (SHP g X) M R := by
  refine zs_iload_n 3 d_Bread_loavesFor_4 rfl (List.mem_of_getElem? (i := 3) rfl) ?_
  refine zs_bipush 6 d_Bread_loavesFor_5 (by decide) ?_
  refine zs_icmp_ge 33 d_Bread_loavesFor_7 (by decide) (fun c1 => ?_) (fun c1 => ?_)
  · replace h := h.1 c1
    refine zs_iconst 0 d_Bread_loavesFor_33 (by decide) ?_
    refine zs_istore_n2 3 [1, 2, 3, 0] [(0, .ref 27), (1, .int x1), (2, .int x2), (3, .int 0)] d_Bread_loavesFor_34 rfl (by decide) rfl ?_
    refine zs_iconst 0 d_Bread_loavesFor_35 (by decide) ?_
    refine zs_istore2 [1, 2, 3, 4, 0] [(0, .ref 27), (1, .int x1), (2, .int x2), (3, .int 0), (4, .int 0)] d_Bread_loavesFor_36 (by decide) rfl ?_
    exact zRT_sub [0, 2, 3, 4] rfl h
  · replace h := h.2 c1
    refine zs_iload_n 1 d_Bread_loavesFor_10 rfl (List.mem_of_getElem? (i := 1) rfl) ?_
    refine zs_iload_n 3 d_Bread_loavesFor_11 rfl (List.mem_of_getElem? (i := 3) rfl) ?_
    refine zs_callSN (kc := 0) (ks := 0) (kc1 := 0) (ks1 := 0) (st := []) [.int x1, .int x3] d_Bread_loavesFor_12 lk_Bread_36 ⟨by decide, by decide⟩ rfl (Nat.le_of_ble_eq_true rfl) (ex_O_has g X M x1 x3) (fun v2 sh2 M2 hR => ?_)
    obtain ⟨rfl, rfl, rfl⟩ := hR
    refine zs_if_eq 27 d_Bread_loavesFor_15 (by decide) (fun c3 => ?_) (fun c3 => ?_)
    · replace h := h.1 (bI_0 c3)
      refine zs_iinc2 3 (x3 + 1) [1, 2, 3, 0] [(0, .ref 27), (1, .int x1), (2, .int x2), (3, .int (x3 + 1))] d_Bread_loavesFor_27 rfl rfl (by decide) rfl ?_
      refine zs_goto 4 d_Bread_loavesFor_30 (by decide) ?_
      exact h
    · replace h := h.2 (bI_1 c3)
      refine zs_iload_n 2 d_Bread_loavesFor_18 rfl (List.mem_of_getElem? (i := 2) rfl) ?_
      refine zs_aload_n 0 d_Bread_loavesFor_19 rfl (List.mem_of_getElem? (i := 0) rfl) ?_
      refine zs_get d_Bread_loavesFor_20 gf_Bread_9 (sh_27 g X) rfl ?_
      refine zs_iload_n 3 d_Bread_loavesFor_23 rfl (List.mem_of_getElem? (i := 3) rfl) ?_
      obtain ⟨b4, h⟩ := h
      refine zs_iald d_Bread_loavesFor_24 (sh_28 g X) b4 ?_
      refine zs_ior d_Bread_loavesFor_25 ?_
      refine zs_istore_n2 2 [1, 2, 0, 3] [(0, .ref 27), (1, .int x1), (2, .int (x2 ||| (M 28 (Int32.toNatClampNeg x3)))), (3, .int x3)] d_Bread_loavesFor_26 rfl (by decide) rfl ?_
      refine zs_iinc2 3 (x3 + 1) [1, 2, 3, 0] [(0, .ref 27), (1, .int x1), (2, .int (x2 ||| (M 28 (Int32.toNatClampNeg x3)))), (3, .int (x3 + 1))] d_Bread_loavesFor_27 rfl rfl (by decide) rfl ?_
      refine zs_goto 4 d_Bread_loavesFor_30 (by decide) ?_
      exact h
theorem v_Bread_loavesFor_38 (g : Nat → Option Nat) (X : List zShp) (M : zMem) (x2 x3 x4 : Int32) (R : zEnd) (h : ((10 ≤ x4) → (R (some (.int x3)) (SHP g X) M)) ∧ ((¬ 10 ≤ x4) → ((((hb x2 x4) = false) → (zRT m_Bread_loavesFor 0 0 38 [(0, .ref 27), (2, .int x2), (3, .int x3), (4, .int (x4 + 1))] [] (SHP g X) M R)) ∧ (((hb x2 x4) = true) → ((vp_in x4 10) ∧ (zRT m_Bread_loavesFor 0 0 38 [(0, .ref 27), (2, .int x2), (3, .int (x3 + (M 29 (Int32.toNatClampNeg x4)))), (4, .int (x4 + 1))] [] (SHP g X) M R)))))) : zRT m_Bread_loavesFor 0 0 38 [(0, .ref 27), (2, .int x2), (3, .int x3), (4, .int x4)] [] (SHP g X) M R := by
  refine zs_iload d_Bread_loavesFor_38 (List.mem_of_getElem? (i := 3) rfl) ?_
  refine zs_bipush 10 d_Bread_loavesFor_40 (by decide) ?_
  refine zs_icmp_ge 70 d_Bread_loavesFor_42 (by decide) (fun c1 => ?_) (fun c1 => ?_)
  · replace h := h.1 c1
    refine zs_iload_n 3 d_Bread_loavesFor_70 rfl (List.mem_of_getElem? (i := 2) rfl) ?_
    exact zs_iret d_Bread_loavesFor_71 rfl h
  · replace h := h.2 c1
    refine zs_iload_n 2 d_Bread_loavesFor_45 rfl (List.mem_of_getElem? (i := 1) rfl) ?_
    refine zs_iload d_Bread_loavesFor_46 (List.mem_of_getElem? (i := 3) rfl) ?_
    refine zs_callSN (kc := 0) (ks := 0) (kc1 := 0) (ks1 := 0) (st := []) [.int x2, .int x4] d_Bread_loavesFor_48 lk_Bread_36 ⟨by decide, by decide⟩ rfl (Nat.le_of_ble_eq_true rfl) (ex_O_has g X M x2 x4) (fun v2 sh2 M2 hR => ?_)
    obtain ⟨rfl, rfl, rfl⟩ := hR
    refine zs_if_eq 64 d_Bread_loavesFor_51 (by decide) (fun c3 => ?_) (fun c3 => ?_)
    · replace h := h.1 (bI_0 c3)
      refine zs_iinc2 3 (x4 + 1) [1, 2, 3, 0] [(0, .ref 27), (2, .int x2), (3, .int x3), (4, .int (x4 + 1))] d_Bread_loavesFor_64 rfl rfl (by decide) rfl ?_
      refine zs_goto 38 d_Bread_loavesFor_67 (by decide) ?_
      exact h
    · replace h := h.2 (bI_1 c3)
      refine zs_iload_n 3 d_Bread_loavesFor_54 rfl (List.mem_of_getElem? (i := 2) rfl) ?_
      refine zs_aload_n 0 d_Bread_loavesFor_55 rfl (List.mem_of_getElem? (i := 0) rfl) ?_
      refine zs_get d_Bread_loavesFor_56 gf_Bread_15 (sh_27 g X) rfl ?_
      refine zs_iload d_Bread_loavesFor_59 (List.mem_of_getElem? (i := 3) rfl) ?_
      obtain ⟨b4, h⟩ := h
      refine zs_iald d_Bread_loavesFor_61 (sh_29 g X) b4 ?_
      refine zs_iadd d_Bread_loavesFor_62 ?_
      refine zs_istore_n2 3 [1, 2, 0, 3] [(0, .ref 27), (2, .int x2), (3, .int (x3 + (M 29 (Int32.toNatClampNeg x4)))), (4, .int x4)] d_Bread_loavesFor_63 rfl (by decide) rfl ?_
      refine zs_iinc2 3 (x4 + 1) [1, 2, 3, 0] [(0, .ref 27), (2, .int x2), (3, .int (x3 + (M 29 (Int32.toNatClampNeg x4)))), (4, .int (x4 + 1))] d_Bread_loavesFor_64 rfl rfl (by decide) rfl ?_
      refine zs_goto 38 d_Bread_loavesFor_67 (by decide) ?_
      exact h
theorem ex_Bread_loavesFor (men : Int32) : zEx m_Bread_loavesFor 0 0 [.ref 27, .int men] (SHP g X) M (qF g X (kLf M men) M) := by
  refine zEx_of _ (by decide) (by simp [Value.category]) (Nat.le_of_ble_eq_true rfl) rfl (v_Bread_loavesFor_0 g X M men _ ?_)
  have L2 : ∀ n k, k + n = 10 → zRT m_Bread_loavesFor 0 0 38 [(0, .ref 27), (2, .int (kThs M men)), (3, .int (kSm (fun k => if hb (kThs M men) (nI k) = true then M 29 k else 0) k)), (4, .int (nI k))] [] (SHP g X) M (qF g X (kLf M men) M) := by
    intro n
    induction n with
    | zero =>
      intro k hk
      have e : k = 10 := by omega
      subst e
      exact v_Bread_loavesFor_38 g X _ _ _ _ _ ⟨fun _ => qF_i rfl rfl, fun h => absurd (nI_le (a := 10) (by omega) (by omega)) h⟩
    | succ n ih =>
      intro k hk
      have ih := ih (k + 1) (by omega)
      refine v_Bread_loavesFor_38 g X _ _ _ _ _ ⟨fun h => absurd h (nI_ge (b := 10) (by omega) (by omega)), fun _ => ?_⟩
      rw [nI_1, nI_clamp (by omega)]
      refine ⟨fun h => ?_, fun h => ⟨vp_in_nI (by omega) (by decide), ?_⟩⟩
      · simpa [kSm, h] using ih
      · simpa [kSm, h] using ih
  have L : ∀ n k, k + n = 6 → zRT m_Bread_loavesFor 0 0 4 [(0, .ref 27), (1, .int men), (2, .int (kOr (fun k => if hb men (nI k) = true then M 28 k else 0) k)), (3, .int (nI k))] [] (SHP g X) M (qF g X (kLf M men) M) := by
    intro n
    induction n with
    | zero =>
      intro k hk
      have e : k = 6 := by omega
      subst e
      exact v_Bread_loavesFor_4 g X _ _ _ _ _ ⟨fun _ => L2 10 0 rfl, fun h => absurd (nI_le (a := 6) (by omega) (by omega)) h⟩
    | succ n ih =>
      intro k hk
      have ih := ih (k + 1) (by omega)
      refine v_Bread_loavesFor_4 g X _ _ _ _ _ ⟨fun h => absurd h (nI_ge (b := 6) (by omega) (by omega)), fun _ => ?_⟩
      rw [nI_1, nI_clamp (by omega)]
      refine ⟨fun h => ?_, fun h => ⟨vp_in_nI (by omega) (by decide), ?_⟩⟩
      · simpa [kOr, h] using ih
      · simpa [kOr, h] using ih
  exact L 6 0 rfl
theorem v_Bread_mostFed_0 (g : Nat → Option Nat) (X : List zShp) (M : zMem) (x1 : Int32) (R : zEnd) (h : zRT m_Bread_mostFed 0 0 4 [(0, .ref 27), (1, .int x1), (2, .int 0), (3, .int 1)] [] (SHP g X) M R) : zRT m_Bread_mostFed 0 0 0 [(0, .ref 27), (1, .int x1)] [] (SHP g X) M R := by
  refine zs_iconst 0 d_Bread_mostFed_0 (by decide) ?_
  refine zs_istore_n2 2 [1, 2, 0] [(0, .ref 27), (1, .int x1), (2, .int 0)] d_Bread_mostFed_1 rfl (by decide) rfl ?_
  refine zs_iconst 1 d_Bread_mostFed_2 (by decide) ?_
  refine zs_istore_n2 3 [1, 2, 3, 0] [(0, .ref 27), (1, .int x1), (2, .int 0), (3, .int 1)] d_Bread_mostFed_3 rfl (by decide) rfl ?_
  exact h
theorem v_Bread_mostFed_4 (g : Nat → Option Nat) (X : List zShp) (M : zMem) (x1 x2 x3 : Int32) (R : zEnd) (h : ((63 < x3) → (R (some (.int ((bc x1) - x2))) (SHP g X) M)) ∧ ((¬ 63 < x3) → (((¬ (x3 &&& (x1 ^^^ (-1))) = 0) → (zRT m_Bread_mostFed 0 0 4 [(0, .ref 27), (1, .int x1), (2, .int x2), (3, .int (x3 + 1))] [] (SHP g X) M R)) ∧ (((x3 &&& (x1 ^^^ (-1))) = 0) → (zRT m_Bread_mostFed 0 0 4 [(0, .ref 27), (1, .int x1), (2, .int (mx x2 ((bc x3) - (kLf M x3)))), (3, .int (x3 + 1))] [] (SHP g X) M R))))) : zRT m_Bread_mostFed 0 0 4 [(0, .ref 27), (1, .int x1), (2, .int x2), (3, .int x3)] [] (SHP g X) M R := by
  refine zs_iload_n 3 d_Bread_mostFed_4 rfl (List.mem_of_getElem? (i := 3) rfl) ?_
  refine zs_bipush 63 d_Bread_mostFed_5 (by decide) ?_
  refine zs_icmp_gt 39 d_Bread_mostFed_7 (by decide) (fun c1 => ?_) (fun c1 => ?_)
  · replace h := h.1 c1
    refine zs_iload_n 1 d_Bread_mostFed_39 rfl (List.mem_of_getElem? (i := 1) rfl) ?_
    refine zs_callS (kc := 0) (ks := 0) (kc1 := 0) (ks1 := 0) (st := []) [.int x1] d_Bread_mostFed_40 lk_Bread_40 ⟨by decide, by decide⟩ rfl (Nat.le_of_ble_eq_true rfl) (ex_JI_bitCount g X M x1) (fun v2 sh2 M2 hR => ?_)
    obtain ⟨rfl, rfl, rfl⟩ := hR
    refine zs_iload_n 2 d_Bread_mostFed_43 rfl (List.mem_of_getElem? (i := 2) rfl) ?_
    refine zs_isub d_Bread_mostFed_44 ?_
    exact zs_iret d_Bread_mostFed_45 rfl h
  · replace h := h.2 c1
    refine zs_iload_n 3 d_Bread_mostFed_10 rfl (List.mem_of_getElem? (i := 3) rfl) ?_
    refine zs_iload_n 1 d_Bread_mostFed_11 rfl (List.mem_of_getElem? (i := 1) rfl) ?_
    refine zs_iconst (-1) d_Bread_mostFed_12 (by decide) ?_
    refine zs_ixor d_Bread_mostFed_13 ?_
    refine zs_iand d_Bread_mostFed_14 ?_
    refine zs_if_ne 33 d_Bread_mostFed_15 (by decide) (fun c3 => ?_) (fun c3 => ?_)
    · replace h := h.1 c3
      refine zs_iinc2 3 (x3 + 1) [1, 2, 3, 0] [(0, .ref 27), (1, .int x1), (2, .int x2), (3, .int (x3 + 1))] d_Bread_mostFed_33 rfl rfl (by decide) rfl ?_
      refine zs_goto 4 d_Bread_mostFed_36 (by decide) ?_
      exact h
    · replace h := h.2 c3
      refine zs_iload_n 2 d_Bread_mostFed_18 rfl (List.mem_of_getElem? (i := 2) rfl) ?_
      refine zs_iload_n 3 d_Bread_mostFed_19 rfl (List.mem_of_getElem? (i := 3) rfl) ?_
      refine zs_callS (kc := 0) (ks := 0) (kc1 := 0) (ks1 := 0) (st := [.int x2]) [.int x3] d_Bread_mostFed_20 lk_Bread_40 ⟨by decide, by decide⟩ rfl (Nat.le_of_ble_eq_true rfl) (ex_JI_bitCount g X M x3) (fun v4 sh4 M4 hR => ?_)
      obtain ⟨rfl, rfl, rfl⟩ := hR
      refine zs_aload_n 0 d_Bread_mostFed_23 rfl (List.mem_of_getElem? (i := 0) rfl) ?_
      refine zs_iload_n 3 d_Bread_mostFed_24 rfl (List.mem_of_getElem? (i := 3) rfl) ?_
      refine zs_callV (kc := 0) (ks := 0) (kc1 := 0) (ks1 := 0) (st := [.int (bc x3), .int x2]) [.int x3] d_Bread_mostFed_25 lk_Bread_45 ⟨by decide, by decide⟩ rfl (sh_27 g X) rfl (Nat.le_of_ble_eq_true rfl) (ex_Bread_loavesFor g X M x3) (fun v5 sh5 M5 hR => ?_)
      obtain ⟨rfl, rfl, rfl⟩ := hR
      refine zs_isub d_Bread_mostFed_28 ?_
      refine zs_max (st := []) d_Bread_mostFed_29 (by decide +kernel) (by decide +kernel) ?_
      refine zs_istore_n2 2 [1, 2, 0, 3] [(0, .ref 27), (1, .int x1), (2, .int (mx x2 ((bc x3) - (kLf M x3)))), (3, .int x3)] d_Bread_mostFed_32 rfl (by decide) rfl ?_
      refine zs_iinc2 3 (x3 + 1) [1, 2, 3, 0] [(0, .ref 27), (1, .int x1), (2, .int (mx x2 ((bc x3) - (kLf M x3)))), (3, .int (x3 + 1))] d_Bread_mostFed_33 rfl rfl (by decide) rfl ?_
      refine zs_goto 4 d_Bread_mostFed_36 (by decide) ?_
      exact h
theorem ex_Bread_mostFed (men : Int32) : zEx m_Bread_mostFed 0 0 [.ref 27, .int men] (SHP g X) M (qF g X (kMf M men) M) := by
  refine zEx_of _ (by decide) (by simp [Value.category]) (Nat.le_of_ble_eq_true rfl) rfl (v_Bread_mostFed_0 g X M men _ ?_)
  have L : ∀ n k, k + n = 63 → zRT m_Bread_mostFed 0 0 4 [(0, .ref 27), (1, .int men), (2, .int (kMfn M men k)), (3, .int (nI (k + 1)))] [] (SHP g X) M (qF g X (kMf M men) M) := by
    intro n
    induction n with
    | zero =>
      intro k hk
      have e : k = 63 := by omega
      subst e
      exact v_Bread_mostFed_4 g X _ _ _ _ _ ⟨fun _ => qF_i rfl rfl, fun h => absurd (nI_lt (a := 63) (by omega) (by omega)) h⟩
    | succ n ih =>
      intro k hk
      have ih := ih (k + 1) (by omega)
      refine v_Bread_mostFed_4 g X _ _ _ _ _ ⟨fun h => absurd h (nI_nlt (a := 63) (by omega) (by omega)), fun _ => ?_⟩
      rw [nI_1]
      refine ⟨fun h => ?_, fun h => ?_⟩
      · simp only [kMfn, if_neg h] at ih
        exact ih
      · simp only [kMfn, if_pos h] at ih
        exact ih
  exact L 63 0 rfl
theorem v_Bread_leastShortSet_0 (g : Nat → Option Nat) (X : List zShp) (M : zMem) (R : zEnd) (h : zRT m_Bread_leastShortSet 0 0 2 [(0, .ref 27), (1, .int 1)] [] (SHP g X) M R) : zRT m_Bread_leastShortSet 0 0 0 [(0, .ref 27)] [] (SHP g X) M R := by
  refine zs_iconst 1 d_Bread_leastShortSet_0 (by decide) ?_
  refine zs_istore_n2 1 [1, 0] [(0, .ref 27), (1, .int 1)] d_Bread_leastShortSet_1 rfl (by decide) rfl ?_
  exact h
theorem v_Bread_leastShortSet_2 (g : Nat → Option Nat) (X : List zShp) (M : zMem) (x1 : Int32) (R : zEnd) (h : ((63 < x1) → (R (some (.int (-6))) (SHP g X) M)) ∧ ((¬ 63 < x1) → ((((bc x1) ≤ (kLf M x1)) → (zRT m_Bread_leastShortSet 0 0 2 [(0, .ref 27), (1, .int (x1 + 1))] [] (SHP g X) M R)) ∧ ((¬ (bc x1) ≤ (kLf M x1)) → (R (some (.int x1)) (SHP g X) M))))) : zRT m_Bread_leastShortSet 0 0 2 [(0, .ref 27), (1, .int x1)] [] (SHP g X) M R := by
  refine zs_iload_n 1 d_Bread_leastShortSet_2 rfl (List.mem_of_getElem? (i := 1) rfl) ?_
  refine zs_bipush 63 d_Bread_leastShortSet_3 (by decide) ?_
  refine zs_icmp_gt 28 d_Bread_leastShortSet_5 (by decide) (fun c1 => ?_) (fun c1 => ?_)
  · replace h := h.1 c1
    refine zs_bipush (-6) d_Bread_leastShortSet_28 (by decide) ?_
    exact zs_iret d_Bread_leastShortSet_30 rfl h
  · replace h := h.2 c1
    refine zs_aload_n 0 d_Bread_leastShortSet_8 rfl (List.mem_of_getElem? (i := 0) rfl) ?_
    refine zs_iload_n 1 d_Bread_leastShortSet_9 rfl (List.mem_of_getElem? (i := 1) rfl) ?_
    refine zs_callV (kc := 0) (ks := 0) (kc1 := 0) (ks1 := 0) (st := []) [.int x1] d_Bread_leastShortSet_10 lk_Bread_45 ⟨by decide, by decide⟩ rfl (sh_27 g X) rfl (Nat.le_of_ble_eq_true rfl) (ex_Bread_loavesFor g X M x1) (fun v2 sh2 M2 hR => ?_)
    obtain ⟨rfl, rfl, rfl⟩ := hR
    refine zs_iload_n 1 d_Bread_leastShortSet_13 rfl (List.mem_of_getElem? (i := 1) rfl) ?_
    refine zs_callS (kc := 0) (ks := 0) (kc1 := 0) (ks1 := 0) (st := [.int (kLf M x1)]) [.int x1] d_Bread_leastShortSet_14 lk_Bread_40 ⟨by decide, by decide⟩ rfl (Nat.le_of_ble_eq_true rfl) (ex_JI_bitCount g X M x1) (fun v3 sh3 M3 hR => ?_)
    obtain ⟨rfl, rfl, rfl⟩ := hR
    refine zs_icmp_ge 22 d_Bread_leastShortSet_17 (by decide) (fun c4 => ?_) (fun c4 => ?_)
    · replace h := h.1 c4
      refine zs_iinc2 1 (x1 + 1) [1, 0] [(0, .ref 27), (1, .int (x1 + 1))] d_Bread_leastShortSet_22 rfl rfl (by decide) rfl ?_
      refine zs_goto 2 d_Bread_leastShortSet_25 (by decide) ?_
      exact h
    · replace h := h.2 c4
      refine zs_iload_n 1 d_Bread_leastShortSet_20 rfl (List.mem_of_getElem? (i := 1) rfl) ?_
      exact zs_iret d_Bread_leastShortSet_21 rfl h
theorem ex_Bread_leastShortSet : zEx m_Bread_leastShortSet 0 0 [.ref 27] (SHP g X) M (qF g X (kLs M) M) := by
  refine zEx_of _ (by decide) (by simp [Value.category]) (Nat.le_of_ble_eq_true rfl) rfl (v_Bread_leastShortSet_0 g X M _ ?_)
  have L : ∀ n k, k + n = 64 → zRT m_Bread_leastShortSet 0 0 2 [(0, .ref 27), (1, .int (nI k))] [] (SHP g X) M (qF g X (kLsn M k n) M) := by
    intro n
    induction n with
    | zero =>
      intro k hk
      exact v_Bread_leastShortSet_2 g X _ _ _ ⟨fun _ => qF_i rfl rfl, fun h => absurd (nI_lt (a := 63) (by omega) (by omega)) h⟩
    | succ n ih =>
      intro k hk
      have ih := ih (k + 1) (by omega)
      refine v_Bread_leastShortSet_2 g X _ _ _ ⟨fun h => absurd h (nI_nlt (a := 63) (by omega) (by omega)), fun _ => ?_⟩
      rw [nI_1]
      refine ⟨fun h => ?_, fun h => qF_i (by simp [kLsn, h]) rfl⟩
      simpa [kLsn, h] using ih
  exact L 63 1 rfl
theorem v_Bread_takeLeastMeal_0 (g : Nat → Option Nat) (X : List zShp) (M : zMem) (x1 x2 : Int32) (R : zEnd) (h : zRT m_Bread_takeLeastMeal 0 0 11 [(0, .ref 27), (1, .int x1), (2, .int x2), (3, .int ((63 : Int32) &&& (-((2 : Int32) <<< (x1 &&& 31))))), (4, .int 0)] [] (SHP g X) M R) : zRT m_Bread_takeLeastMeal 0 0 0 [(0, .ref 27), (1, .int x1), (2, .int x2)] [] (SHP g X) M R := by
  refine zs_bipush 63 d_Bread_takeLeastMeal_0 (by decide) ?_
  refine zs_iconst 2 d_Bread_takeLeastMeal_2 (by decide) ?_
  refine zs_iload_n 1 d_Bread_takeLeastMeal_3 rfl (List.mem_of_getElem? (i := 1) rfl) ?_
  refine zs_ishl d_Bread_takeLeastMeal_4 ?_
  refine zs_ineg d_Bread_takeLeastMeal_5 ?_
  refine zs_iand d_Bread_takeLeastMeal_6 ?_
  refine zs_istore_n2 3 [1, 2, 3, 0] [(0, .ref 27), (1, .int x1), (2, .int x2), (3, .int ((63 : Int32) &&& (-((2 : Int32) <<< (x1 &&& 31)))))] d_Bread_takeLeastMeal_7 rfl (by decide) rfl ?_
  refine zs_iconst 0 d_Bread_takeLeastMeal_8 (by decide) ?_
  refine zs_istore2 [1, 2, 3, 4, 0] [(0, .ref 27), (1, .int x1), (2, .int x2), (3, .int ((63 : Int32) &&& (-((2 : Int32) <<< (x1 &&& 31))))), (4, .int 0)] d_Bread_takeLeastMeal_9 (by decide) rfl ?_
  exact h
theorem v_Bread_takeLeastMeal_11 (g : Nat → Option Nat) (X : List zShp) (M : zMem) (x1 x2 x3 x4 : Int32) (R : zEnd) (h : ((10 ≤ x4) → (R (some (.int (-6))) (SHP g X) M)) ∧ ((¬ 10 ≤ x4) → ((vp_in x1 6) ∧ ((((hb (M 28 (Int32.toNatClampNeg x1)) x4) = false) → (zRT m_Bread_takeLeastMeal 0 0 11 [(0, .ref 27), (1, .int x1), (2, .int x2), (3, .int x3), (4, .int (x4 + 1))] [] (SHP g X) M R)) ∧ (((hb (M 28 (Int32.toNatClampNeg x1)) x4) = true) → ((vp_in x4 10) ∧ ((((M 29 (Int32.toNatClampNeg x4)) ≤ 0) → (zRT m_Bread_takeLeastMeal 0 0 11 [(0, .ref 27), (1, .int x1), (2, .int x2), (3, .int x3), (4, .int (x4 + 1))] [] (SHP g X) M R)) ∧ ((¬ (M 29 (Int32.toNatClampNeg x4)) ≤ 0) → (((¬ ((1 : Int32) + (kMf (zms M 29 (Int32.toNatClampNeg x4) ((M 29 (Int32.toNatClampNeg x4)) - 1)) x3)) = x2) → (zRT m_Bread_takeLeastMeal 0 0 11 [(0, .ref 27), (1, .int x1), (2, .int x2), (3, .int x3), (4, .int (x4 + 1))] [] (SHP g X) (zms (zms M 29 (Int32.toNatClampNeg x4) ((M 29 (Int32.toNatClampNeg x4)) - 1)) 29 (Int32.toNatClampNeg x4) (((zms M 29 (Int32.toNatClampNeg x4) ((M 29 (Int32.toNatClampNeg x4)) - 1)) 29 (Int32.toNatClampNeg x4)) + 1)) R)) ∧ ((((1 : Int32) + (kMf (zms M 29 (Int32.toNatClampNeg x4) ((M 29 (Int32.toNatClampNeg x4)) - 1)) x3)) = x2) → (R (some (.int x4)) (SHP g X) (zms M 29 (Int32.toNatClampNeg x4) ((M 29 (Int32.toNatClampNeg x4)) - 1))))))))))))) : zRT m_Bread_takeLeastMeal 0 0 11 [(0, .ref 27), (1, .int x1), (2, .int x2), (3, .int x3), (4, .int x4)] [] (SHP g X) M R := by
  refine zs_iload d_Bread_takeLeastMeal_11 (List.mem_of_getElem? (i := 4) rfl) ?_
  refine zs_bipush 10 d_Bread_takeLeastMeal_13 (by decide) ?_
  refine zs_icmp_ge 84 d_Bread_takeLeastMeal_15 (by decide) (fun c1 => ?_) (fun c1 => ?_)
  · replace h := h.1 c1
    refine zs_bipush (-6) d_Bread_takeLeastMeal_84 (by decide) ?_
    exact zs_iret d_Bread_takeLeastMeal_86 rfl h
  · replace h := h.2 c1
    refine zs_aload_n 0 d_Bread_takeLeastMeal_18 rfl (List.mem_of_getElem? (i := 0) rfl) ?_
    refine zs_get d_Bread_takeLeastMeal_19 gf_Bread_9 (sh_27 g X) rfl ?_
    refine zs_iload_n 1 d_Bread_takeLeastMeal_22 rfl (List.mem_of_getElem? (i := 1) rfl) ?_
    obtain ⟨b2, h⟩ := h
    refine zs_iald d_Bread_takeLeastMeal_23 (sh_28 g X) b2 ?_
    refine zs_iload d_Bread_takeLeastMeal_24 (List.mem_of_getElem? (i := 4) rfl) ?_
    refine zs_callSN (kc := 0) (ks := 0) (kc1 := 0) (ks1 := 0) (st := []) [.int (M 28 (Int32.toNatClampNeg x1)), .int x4] d_Bread_takeLeastMeal_26 lk_Bread_36 ⟨by decide, by decide⟩ rfl (Nat.le_of_ble_eq_true rfl) (ex_O_has g X M (M 28 (Int32.toNatClampNeg x1)) x4) (fun v3 sh3 M3 hR => ?_)
    obtain ⟨rfl, rfl, rfl⟩ := hR
    refine zs_if_eq 78 d_Bread_takeLeastMeal_29 (by decide) (fun c4 => ?_) (fun c4 => ?_)
    · replace h := h.1 (bI_0 c4)
      refine zs_iinc2 4 (x4 + 1) [1, 2, 3, 4, 0] [(0, .ref 27), (1, .int x1), (2, .int x2), (3, .int x3), (4, .int (x4 + 1))] d_Bread_takeLeastMeal_78 rfl rfl (by decide) rfl ?_
      refine zs_goto 11 d_Bread_takeLeastMeal_81 (by decide) ?_
      exact h
    · replace h := h.2 (bI_1 c4)
      refine zs_aload_n 0 d_Bread_takeLeastMeal_32 rfl (List.mem_of_getElem? (i := 0) rfl) ?_
      refine zs_get d_Bread_takeLeastMeal_33 gf_Bread_15 (sh_27 g X) rfl ?_
      refine zs_iload d_Bread_takeLeastMeal_36 (List.mem_of_getElem? (i := 4) rfl) ?_
      obtain ⟨b5, h⟩ := h
      refine zs_iald d_Bread_takeLeastMeal_38 (sh_29 g X) b5 ?_
      refine zs_if_le 78 d_Bread_takeLeastMeal_39 (by decide) (fun c6 => ?_) (fun c6 => ?_)
      · replace h := h.1 c6
        refine zs_iinc2 4 (x4 + 1) [1, 2, 3, 4, 0] [(0, .ref 27), (1, .int x1), (2, .int x2), (3, .int x3), (4, .int (x4 + 1))] d_Bread_takeLeastMeal_78 rfl rfl (by decide) rfl ?_
        refine zs_goto 11 d_Bread_takeLeastMeal_81 (by decide) ?_
        exact h
      · replace h := h.2 c6
        refine zs_aload_n 0 d_Bread_takeLeastMeal_42 rfl (List.mem_of_getElem? (i := 0) rfl) ?_
        refine zs_get d_Bread_takeLeastMeal_43 gf_Bread_15 (sh_27 g X) rfl ?_
        refine zs_iload d_Bread_takeLeastMeal_46 (List.mem_of_getElem? (i := 4) rfl) ?_
        refine zs_dup2 d_Bread_takeLeastMeal_48 rfl rfl ?_
        refine zs_iald d_Bread_takeLeastMeal_49 (sh_29 g X) b5 ?_
        refine zs_iconst 1 d_Bread_takeLeastMeal_50 (by decide) ?_
        refine zs_isub d_Bread_takeLeastMeal_51 ?_
        refine zs_iast d_Bread_takeLeastMeal_52 (sh_29 g X) b5 ?_
        refine zs_iconst 1 d_Bread_takeLeastMeal_53 (by decide) ?_
        refine zs_aload_n 0 d_Bread_takeLeastMeal_54 rfl (List.mem_of_getElem? (i := 0) rfl) ?_
        refine zs_iload_n 3 d_Bread_takeLeastMeal_55 rfl (List.mem_of_getElem? (i := 3) rfl) ?_
        refine zs_callV (kc := 0) (ks := 0) (kc1 := 0) (ks1 := 0) (st := [.int 1]) [.int x3] d_Bread_takeLeastMeal_56 lk_Bread_54 ⟨by decide, by decide⟩ rfl (sh_27 g X) rfl (Nat.le_of_ble_eq_true rfl) (ex_Bread_mostFed g X (zms M 29 (Int32.toNatClampNeg x4) ((M 29 (Int32.toNatClampNeg x4)) - 1)) x3) (fun v7 sh7 M7 hR => ?_)
        obtain ⟨rfl, rfl, rfl⟩ := hR
        refine zs_iadd d_Bread_takeLeastMeal_59 ?_
        refine zs_iload_n 2 d_Bread_takeLeastMeal_60 rfl (List.mem_of_getElem? (i := 2) rfl) ?_
        refine zs_icmp_ne 67 d_Bread_takeLeastMeal_61 (by decide) (fun c8 => ?_) (fun c8 => ?_)
        · replace h := h.1 c8
          refine zs_aload_n 0 d_Bread_takeLeastMeal_67 rfl (List.mem_of_getElem? (i := 0) rfl) ?_
          refine zs_get d_Bread_takeLeastMeal_68 gf_Bread_15 (sh_27 g X) rfl ?_
          refine zs_iload d_Bread_takeLeastMeal_71 (List.mem_of_getElem? (i := 4) rfl) ?_
          refine zs_dup2 d_Bread_takeLeastMeal_73 rfl rfl ?_
          refine zs_iald d_Bread_takeLeastMeal_74 (sh_29 g X) b5 ?_
          refine zs_iconst 1 d_Bread_takeLeastMeal_75 (by decide) ?_
          refine zs_iadd d_Bread_takeLeastMeal_76 ?_
          refine zs_iast d_Bread_takeLeastMeal_77 (sh_29 g X) b5 ?_
          refine zs_iinc2 4 (x4 + 1) [1, 2, 3, 4, 0] [(0, .ref 27), (1, .int x1), (2, .int x2), (3, .int x3), (4, .int (x4 + 1))] d_Bread_takeLeastMeal_78 rfl rfl (by decide) rfl ?_
          refine zs_goto 11 d_Bread_takeLeastMeal_81 (by decide) ?_
          exact h
        · replace h := h.2 c8
          refine zs_iload d_Bread_takeLeastMeal_64 (List.mem_of_getElem? (i := 4) rfl) ?_
          exact zs_iret d_Bread_takeLeastMeal_66 rfl h
theorem zms_back (M : zMem) (p k : Nat) : zms (zms M p k (M p k - 1)) p k ((zms M p k (M p k - 1)) p k + 1) = M := by
  funext a b
  by_cases ha : a = p
  · by_cases hb : b = k
    · simp [zms, ha, hb, Int32.sub_add_cancel]
    · simp [zms, ha, hb]
  · simp [zms, ha]
theorem ex_Bread_takeLeastMeal (x1 x2 : Int32) (hh : vp_in x1 6) : zEx m_Bread_takeLeastMeal 0 0 [.ref 27, .int x1, .int x2] (SHP g X) M (qF g X (kTm M x1 x2).1 (kTm M x1 x2).2) := by
  refine zEx_of _ (by decide) (by simp [Value.category]) (Nat.le_of_ble_eq_true rfl) rfl (v_Bread_takeLeastMeal_0 g X M x1 x2 _ ?_)
  have L : ∀ x3 n k, k + n = 10 → zRT m_Bread_takeLeastMeal 0 0 11 [(0, .ref 27), (1, .int x1), (2, .int x2), (3, .int x3), (4, .int (nI k))] [] (SHP g X) M (qF g X (kTmn M x1 x2 x3 k n).1 (kTmn M x1 x2 x3 k n).2) := by
    intro x3 n
    induction n with
    | zero =>
      intro k hk
      exact v_Bread_takeLeastMeal_11 g X _ _ _ _ _ _ ⟨fun _ => qF_i rfl rfl, fun h => absurd (nI_le (a := 10) (by omega) (by omega)) h⟩
    | succ n ih =>
      intro k hk
      have ih := ih (k + 1) (by omega)
      refine v_Bread_takeLeastMeal_11 g X _ _ _ _ _ _ ⟨fun h => absurd h (nI_ge (b := 10) (by omega) (by omega)), fun _ => ⟨hh, ?_⟩⟩
      rw [nI_1, nI_clamp (by omega), zms_back]
      refine ⟨fun h => ?_, fun h => ⟨vp_in_nI (by omega) (by decide), fun h2 => ?_, fun h2 => ⟨fun h3 => ?_, fun h3 => ?_⟩⟩⟩
      · simpa [kTmn, h] using ih
      · simpa [kTmn, h, h2] using ih
      · simpa [kTmn, h, h2, h3] using ih
      · exact qF_i (by simp [kTmn, h, h2, h3]) (by simp [kTmn, h, h2, h3])
  unfold kTm
  exact L _ 10 0 rfl
theorem v_Bread_serve_0 (g : Nat → Option Nat) (X : List zShp) (M : zMem) (R : zEnd) (h : zRT m_Bread_serve 0 0 11 [(0, .ref 27), (1, .int (kMf M 63)), (2, .int (kMf M 63)), (3, .int 0)] [] (SHP g X) M R) : zRT m_Bread_serve 0 0 0 [(0, .ref 27)] [] (SHP g X) M R := by
  refine zs_aload_n 0 d_Bread_serve_0 rfl (List.mem_of_getElem? (i := 0) rfl) ?_
  refine zs_bipush 63 d_Bread_serve_1 (by decide) ?_
  refine zs_callV (kc := 0) (ks := 0) (kc1 := 0) (ks1 := 0) (st := []) [.int 63] d_Bread_serve_3 lk_Bread_54 ⟨by decide, by decide⟩ rfl (sh_27 g X) rfl (Nat.le_of_ble_eq_true rfl) (ex_Bread_mostFed g X M 63) (fun v1 sh1 M1 hR => ?_)
  obtain ⟨rfl, rfl, rfl⟩ := hR
  refine zs_istore_n2 1 [1, 0] [(0, .ref 27), (1, .int (kMf M 63))] d_Bread_serve_6 rfl (by decide) rfl ?_
  refine zs_iload_n 1 d_Bread_serve_7 rfl (List.mem_of_getElem? (i := 1) rfl) ?_
  refine zs_istore_n2 2 [1, 2, 0] [(0, .ref 27), (1, .int (kMf M 63)), (2, .int (kMf M 63))] d_Bread_serve_8 rfl (by decide) rfl ?_
  refine zs_iconst 0 d_Bread_serve_9 (by decide) ?_
  refine zs_istore_n2 3 [1, 2, 3, 0] [(0, .ref 27), (1, .int (kMf M 63)), (2, .int (kMf M 63)), (3, .int 0)] d_Bread_serve_10 rfl (by decide) rfl ?_
  exact h
theorem v_Bread_serve_11 (g : Nat → Option Nat) (X : List zShp) (M : zMem) (x1 x2 x3 : Int32) (R : zEnd) (h : ((6 ≤ x3) → (R (some (.int x1)) (SHP g X) M)) ∧ ((¬ 6 ≤ x3) → ((vp_in x3 6) ∧ ((vp_in x3 6) ∧ (((((zms ((kTm M x3 x2).2) 30 (Int32.toNatClampNeg x3) ((kTm M x3 x2).1)) 30 (Int32.toNatClampNeg x3)) = (-6)) → (zRT m_Bread_serve 0 0 11 [(0, .ref 27), (1, .int x1), (2, .int x2), (3, .int (x3 + 1))] [] (SHP g X) (zms ((kTm M x3 x2).2) 30 (Int32.toNatClampNeg x3) ((kTm M x3 x2).1)) R)) ∧ ((¬ ((zms ((kTm M x3 x2).2) 30 (Int32.toNatClampNeg x3) ((kTm M x3 x2).1)) 30 (Int32.toNatClampNeg x3)) = (-6)) → (zRT m_Bread_serve 0 0 11 [(0, .ref 27), (1, .int x1), (2, .int (x2 + (-1))), (3, .int (x3 + 1))] [] (SHP g X) (zms ((kTm M x3 x2).2) 30 (Int32.toNatClampNeg x3) ((kTm M x3 x2).1)) R))))))) : zRT m_Bread_serve 0 0 11 [(0, .ref 27), (1, .int x1), (2, .int x2), (3, .int x3)] [] (SHP g X) M R := by
  refine zs_iload_n 3 d_Bread_serve_11 rfl (List.mem_of_getElem? (i := 3) rfl) ?_
  refine zs_bipush 6 d_Bread_serve_12 (by decide) ?_
  refine zs_icmp_ge 49 d_Bread_serve_14 (by decide) (fun c1 => ?_) (fun c1 => ?_)
  · replace h := h.1 c1
    refine zs_iload_n 1 d_Bread_serve_49 rfl (List.mem_of_getElem? (i := 1) rfl) ?_
    exact zs_iret d_Bread_serve_50 rfl h
  · replace h := h.2 c1
    refine zs_aload_n 0 d_Bread_serve_17 rfl (List.mem_of_getElem? (i := 0) rfl) ?_
    refine zs_get d_Bread_serve_18 gf_Bread_18 (sh_27 g X) rfl ?_
    refine zs_iload_n 3 d_Bread_serve_21 rfl (List.mem_of_getElem? (i := 3) rfl) ?_
    refine zs_aload_n 0 d_Bread_serve_22 rfl (List.mem_of_getElem? (i := 0) rfl) ?_
    refine zs_iload_n 3 d_Bread_serve_23 rfl (List.mem_of_getElem? (i := 3) rfl) ?_
    refine zs_iload_n 2 d_Bread_serve_24 rfl (List.mem_of_getElem? (i := 2) rfl) ?_
    obtain ⟨p2, h⟩ := h
    refine zs_callV (kc := 0) (ks := 0) (kc1 := 0) (ks1 := 0) (st := [.int x3, .ref 30]) [.int x3, .int x2] d_Bread_serve_25 lk_Bread_57 ⟨by decide, by decide⟩ rfl (sh_27 g X) rfl (Nat.le_of_ble_eq_true rfl) (ex_Bread_takeLeastMeal g X M x3 x2 p2) (fun v2 sh2 M2 hR => ?_)
    obtain ⟨rfl, rfl, rfl⟩ := hR
    obtain ⟨b3, h⟩ := h
    refine zs_iast d_Bread_serve_28 (sh_30 g X) b3 ?_
    refine zs_aload_n 0 d_Bread_serve_29 rfl (List.mem_of_getElem? (i := 0) rfl) ?_
    refine zs_get d_Bread_serve_30 gf_Bread_18 (sh_27 g X) rfl ?_
    refine zs_iload_n 3 d_Bread_serve_33 rfl (List.mem_of_getElem? (i := 3) rfl) ?_
    refine zs_iald d_Bread_serve_34 (sh_30 g X) b3 ?_
    refine zs_bipush (-6) d_Bread_serve_35 (by decide) ?_
    refine zs_icmp_eq 43 d_Bread_serve_37 (by decide) (fun c4 => ?_) (fun c4 => ?_)
    · replace h := h.1 c4
      refine zs_iinc2 3 (x3 + 1) [1, 2, 3, 0] [(0, .ref 27), (1, .int x1), (2, .int x2), (3, .int (x3 + 1))] d_Bread_serve_43 rfl rfl (by decide) rfl ?_
      refine zs_goto 11 d_Bread_serve_46 (by decide) ?_
      exact h
    · replace h := h.2 c4
      refine zs_iinc2 2 (x2 + (-1)) [1, 2, 0, 3] [(0, .ref 27), (1, .int x1), (2, .int (x2 + (-1))), (3, .int x3)] d_Bread_serve_40 rfl rfl (by decide) rfl ?_
      refine zs_iinc2 3 (x3 + 1) [1, 2, 3, 0] [(0, .ref 27), (1, .int x1), (2, .int (x2 + (-1))), (3, .int (x3 + 1))] d_Bread_serve_43 rfl rfl (by decide) rfl ?_
      refine zs_goto 11 d_Bread_serve_46 (by decide) ?_
      exact h
theorem ex_Bread_serve : zEx m_Bread_serve 0 0 [.ref 27] (SHP g X) M (qF g X (kMf M 63) (kServe M)) := by
  refine zEx_of _ (by decide) (by simp [Value.category]) (Nat.le_of_ble_eq_true rfl) rfl (v_Bread_serve_0 g X M _ ?_)
  have L : ∀ most n k still M1, k + n = 6 → zRT m_Bread_serve 0 0 11 [(0, .ref 27), (1, .int most), (2, .int still), (3, .int (nI k))] [] (SHP g X) M1 (qF g X most (kServen k n still M1)) := by
    intro most n
    induction n with
    | zero =>
      intro k still M1 hk
      exact v_Bread_serve_11 g X _ _ _ _ _ ⟨fun _ => qF_i rfl rfl, fun h => absurd (nI_le (a := 6) (by omega) (by omega)) h⟩
    | succ n ih =>
      intro k still M1 hk
      refine v_Bread_serve_11 g X _ _ _ _ _ ⟨fun h => absurd h (nI_ge (b := 6) (by omega) (by omega)), fun _ => ⟨vp_in_nI (by omega) (by decide), vp_in_nI (by omega) (by decide), ?_⟩⟩
      rw [nI_1, nI_clamp (by omega)]
      have ez : zms (kTm M1 (nI k) still).2 30 k (kTm M1 (nI k) still).1 30 k = (kTm M1 (nI k) still).1 := by simp [zms]
      rw [ez]
      refine ⟨fun h => ?_, fun h => ?_⟩
      · have ih := ih (k + 1) still (zms (kTm M1 (nI k) still).2 30 k (kTm M1 (nI k) still).1) (by omega)
        simpa [kServen, h] using ih
      · have ih := ih (k + 1) (still + (-1)) (zms (kTm M1 (nI k) still).2 30 k (kTm M1 (nI k) still).1) (by omega)
        simpa [kServen, h] using ih
  exact L _ 6 0 _ M rfl
theorem v_Bread_eats_0 (g : Nat → Option Nat) (X : List zShp) (M : zMem) (x1 : Int32) (R : zEnd) (h : zRT m_Bread_eats 0 0 2 [(0, .ref 27), (1, .int x1), (2, .int 0)] [] (SHP g X) M R) : zRT m_Bread_eats 0 0 0 [(0, .ref 27), (1, .int x1)] [] (SHP g X) M R := by
  refine zs_iconst 0 d_Bread_eats_0 (by decide) ?_
  refine zs_istore_n2 2 [1, 2, 0] [(0, .ref 27), (1, .int x1), (2, .int 0)] d_Bread_eats_1 rfl (by decide) rfl ?_
  exact h
theorem v_Bread_eats_2 (g : Nat → Option Nat) (X : List zShp) (M : zMem) (x1 x2 : Int32) (R : zEnd) (h : ((10 ≤ x2) → (R (some (.int 0)) (SHP g X) M)) ∧ ((¬ 10 ≤ x2) → ((vp_in x1 6) ∧ ((((hb (M 28 (Int32.toNatClampNeg x1)) x2) = false) → (zRT m_Bread_eats 0 0 2 [(0, .ref 27), (1, .int x1), (2, .int (x2 + 1))] [] (SHP g X) M R)) ∧ (((hb (M 28 (Int32.toNatClampNeg x1)) x2) = true) → ((vp_in x2 10) ∧ ((((M 29 (Int32.toNatClampNeg x2)) ≤ 0) → (zRT m_Bread_eats 0 0 2 [(0, .ref 27), (1, .int x1), (2, .int (x2 + 1))] [] (SHP g X) M R)) ∧ ((¬ (M 29 (Int32.toNatClampNeg x2)) ≤ 0) → (R (some (.int 1)) (SHP g X) (zms M 29 (Int32.toNatClampNeg x2) ((M 29 (Int32.toNatClampNeg x2)) - 1))))))))))) : zRT m_Bread_eats 0 0 2 [(0, .ref 27), (1, .int x1), (2, .int x2)] [] (SHP g X) M R := by
  refine zs_iload_n 2 d_Bread_eats_2 rfl (List.mem_of_getElem? (i := 2) rfl) ?_
  refine zs_bipush 10 d_Bread_eats_3 (by decide) ?_
  refine zs_icmp_ge 48 d_Bread_eats_5 (by decide) (fun c1 => ?_) (fun c1 => ?_)
  · replace h := h.1 c1
    refine zs_iconst 0 d_Bread_eats_48 (by decide) ?_
    exact zs_zret (by decide) d_Bread_eats_49 rfl h
  · replace h := h.2 c1
    refine zs_aload_n 0 d_Bread_eats_8 rfl (List.mem_of_getElem? (i := 0) rfl) ?_
    refine zs_get d_Bread_eats_9 gf_Bread_9 (sh_27 g X) rfl ?_
    refine zs_iload_n 1 d_Bread_eats_12 rfl (List.mem_of_getElem? (i := 1) rfl) ?_
    obtain ⟨b2, h⟩ := h
    refine zs_iald d_Bread_eats_13 (sh_28 g X) b2 ?_
    refine zs_iload_n 2 d_Bread_eats_14 rfl (List.mem_of_getElem? (i := 2) rfl) ?_
    refine zs_callSN (kc := 0) (ks := 0) (kc1 := 0) (ks1 := 0) (st := []) [.int (M 28 (Int32.toNatClampNeg x1)), .int x2] d_Bread_eats_15 lk_Bread_36 ⟨by decide, by decide⟩ rfl (Nat.le_of_ble_eq_true rfl) (ex_O_has g X M (M 28 (Int32.toNatClampNeg x1)) x2) (fun v3 sh3 M3 hR => ?_)
    obtain ⟨rfl, rfl, rfl⟩ := hR
    refine zs_if_eq 42 d_Bread_eats_18 (by decide) (fun c4 => ?_) (fun c4 => ?_)
    · replace h := h.1 (bI_0 c4)
      refine zs_iinc2 2 (x2 + 1) [1, 2, 0] [(0, .ref 27), (1, .int x1), (2, .int (x2 + 1))] d_Bread_eats_42 rfl rfl (by decide) rfl ?_
      refine zs_goto 2 d_Bread_eats_45 (by decide) ?_
      exact h
    · replace h := h.2 (bI_1 c4)
      refine zs_aload_n 0 d_Bread_eats_21 rfl (List.mem_of_getElem? (i := 0) rfl) ?_
      refine zs_get d_Bread_eats_22 gf_Bread_15 (sh_27 g X) rfl ?_
      refine zs_iload_n 2 d_Bread_eats_25 rfl (List.mem_of_getElem? (i := 2) rfl) ?_
      obtain ⟨b5, h⟩ := h
      refine zs_iald d_Bread_eats_26 (sh_29 g X) b5 ?_
      refine zs_if_le 42 d_Bread_eats_27 (by decide) (fun c6 => ?_) (fun c6 => ?_)
      · replace h := h.1 c6
        refine zs_iinc2 2 (x2 + 1) [1, 2, 0] [(0, .ref 27), (1, .int x1), (2, .int (x2 + 1))] d_Bread_eats_42 rfl rfl (by decide) rfl ?_
        refine zs_goto 2 d_Bread_eats_45 (by decide) ?_
        exact h
      · replace h := h.2 c6
        refine zs_aload_n 0 d_Bread_eats_30 rfl (List.mem_of_getElem? (i := 0) rfl) ?_
        refine zs_get d_Bread_eats_31 gf_Bread_15 (sh_27 g X) rfl ?_
        refine zs_iload_n 2 d_Bread_eats_34 rfl (List.mem_of_getElem? (i := 2) rfl) ?_
        refine zs_dup2 d_Bread_eats_35 rfl rfl ?_
        refine zs_iald d_Bread_eats_36 (sh_29 g X) b5 ?_
        refine zs_iconst 1 d_Bread_eats_37 (by decide) ?_
        refine zs_isub d_Bread_eats_38 ?_
        refine zs_iast d_Bread_eats_39 (sh_29 g X) b5 ?_
        refine zs_iconst 1 d_Bread_eats_40 (by decide) ?_
        exact zs_zret (by decide) d_Bread_eats_41 rfl h
theorem ex_Bread_eats (m : Int32) (hh : vp_in m 6) : zEx m_Bread_eats 0 0 [.ref 27, .int m] (SHP g X) M (qF g X (bI (kEat M m).1) (kEat M m).2) := by
  refine zEx_of _ (by decide) (by simp [Value.category]) (Nat.le_of_ble_eq_true rfl) rfl (v_Bread_eats_0 g X M m _ ?_)
  have L : ∀ n k, k + n = 10 → zRT m_Bread_eats 0 0 2 [(0, .ref 27), (1, .int m), (2, .int (nI k))] [] (SHP g X) M (qF g X (bI (kEatn M m k n).1) (kEatn M m k n).2) := by
    intro n
    induction n with
    | zero =>
      intro k hk
      exact v_Bread_eats_2 g X _ _ _ _ ⟨fun _ => qF_i rfl rfl, fun h => absurd (nI_le (a := 10) (by omega) (by omega)) h⟩
    | succ n ih =>
      intro k hk
      have ih := ih (k + 1) (by omega)
      refine v_Bread_eats_2 g X _ _ _ _ ⟨fun h => absurd h (nI_ge (b := 10) (by omega) (by omega)), fun _ => ⟨hh, ?_⟩⟩
      rw [nI_1, nI_clamp (by omega)]
      refine ⟨fun h => ?_, fun h => ⟨vp_in_nI (by omega) (by decide), fun h2 => ?_, fun h2 => ?_⟩⟩
      · simpa [kEatn, h] using ih
      · simpa [kEatn, h, h2] using ih
      · exact qF_i (by simp [kEatn, h, h2, bI]) (by simp [kEatn, h, h2])
  exact L 10 0 rfl
theorem v_Bread_live_0 (g : Nat → Option Nat) (X : List zShp) (M : zMem) (x1 x2 : Int32) (R : zEnd) (h : zRT m_Bread_live 0 0 8 [(0, .ref 27), (2, .int x2), (3, .int x1), (4, .int 0), (5, .int 0)] [] (SHP g X) M R) : zRT m_Bread_live 0 0 0 [(0, .ref 27), (1, .int x1), (2, .int x2)] [] (SHP g X) M R := by
  refine zs_iload_n 1 d_Bread_live_0 rfl (List.mem_of_getElem? (i := 1) rfl) ?_
  refine zs_istore_n2 3 [1, 2, 3, 0] [(0, .ref 27), (1, .int x1), (2, .int x2), (3, .int x1)] d_Bread_live_1 rfl (by decide) rfl ?_
  refine zs_iconst 0 d_Bread_live_2 (by decide) ?_
  refine zs_istore2 [1, 2, 3, 4, 0] [(0, .ref 27), (1, .int x1), (2, .int x2), (3, .int x1), (4, .int 0)] d_Bread_live_3 (by decide) rfl ?_
  refine zs_iconst 0 d_Bread_live_5 (by decide) ?_
  refine zs_istore2 [1, 2, 3, 4, 5, 0] [(0, .ref 27), (1, .int x1), (2, .int x2), (3, .int x1), (4, .int 0), (5, .int 0)] d_Bread_live_6 (by decide) rfl ?_
  exact zRT_sub [0, 2, 3, 4, 5] rfl h
theorem v_Bread_live_8 (g : Nat → Option Nat) (X : List zShp) (M : zMem) (x2 x3 x4 x5 : Int32) (R : zEnd) (h : ((x2 ≤ x5) → (R (some (.int x4)) (SHP g X) M)) ∧ ((¬ x2 ≤ x5) → ((vp_in (((((75 : Int32) * x3) + 74) - (((75 : Int32) * x3) + 74) / 65537 * 65537) - ((((75 : Int32) * x3) + 74) - (((75 : Int32) * x3) + 74) / 65537 * 65537) / 6 * 6) 6) ∧ ((((kEat M (((((75 : Int32) * x3) + 74) - (((75 : Int32) * x3) + 74) / 65537 * 65537) - ((((75 : Int32) * x3) + 74) - (((75 : Int32) * x3) + 74) / 65537 * 65537) / 6 * 6)).1 = false) → (zRT m_Bread_live 0 0 8 [(0, .ref 27), (2, .int x2), (3, .int ((((75 : Int32) * x3) + 74) - (((75 : Int32) * x3) + 74) / 65537 * 65537)), (4, .int x4), (5, .int (x5 + 1))] [] (SHP g X) ((kEat M (((((75 : Int32) * x3) + 74) - (((75 : Int32) * x3) + 74) / 65537 * 65537) - ((((75 : Int32) * x3) + 74) - (((75 : Int32) * x3) + 74) / 65537 * 65537) / 6 * 6)).2) R)) ∧ (((kEat M (((((75 : Int32) * x3) + 74) - (((75 : Int32) * x3) + 74) / 65537 * 65537) - ((((75 : Int32) * x3) + 74) - (((75 : Int32) * x3) + 74) / 65537 * 65537) / 6 * 6)).1 = true) → (zRT m_Bread_live 0 0 8 [(0, .ref 27), (2, .int x2), (3, .int ((((75 : Int32) * x3) + 74) - (((75 : Int32) * x3) + 74) / 65537 * 65537)), (4, .int (x4 + 1)), (5, .int (x5 + 1))] [] (SHP g X) ((kEat M (((((75 : Int32) * x3) + 74) - (((75 : Int32) * x3) + 74) / 65537 * 65537) - ((((75 : Int32) * x3) + 74) - (((75 : Int32) * x3) + 74) / 65537 * 65537) / 6 * 6)).2) R)))))) : zRT m_Bread_live 0 0 8 [(0, .ref 27), (2, .int x2), (3, .int x3), (4, .int x4), (5, .int x5)] [] (SHP g X) M R := by
  refine zs_iload d_Bread_live_8 (List.mem_of_getElem? (i := 4) rfl) ?_
  refine zs_iload_n 2 d_Bread_live_10 rfl (List.mem_of_getElem? (i := 1) rfl) ?_
  refine zs_icmp_ge 45 d_Bread_live_11 (by decide) (fun c1 => ?_) (fun c1 => ?_)
  · replace h := h.1 c1
    refine zs_iload d_Bread_live_45 (List.mem_of_getElem? (i := 3) rfl) ?_
    exact zs_iret d_Bread_live_47 rfl h
  · replace h := h.2 c1
    refine zs_bipush 75 d_Bread_live_14 (by decide) ?_
    refine zs_iload_n 3 d_Bread_live_16 rfl (List.mem_of_getElem? (i := 2) rfl) ?_
    refine zs_imul d_Bread_live_17 ?_
    refine zs_bipush 74 d_Bread_live_18 (by decide) ?_
    refine zs_iadd d_Bread_live_20 ?_
    refine zs_ldc (v := 65537) d_Bread_live_21 (by decide +kernel) ?_
    refine zs_irem d_Bread_live_23 (by decide) ?_
    refine zs_istore_n2 3 [1, 2, 0, 3, 4] [(0, .ref 27), (2, .int x2), (3, .int ((((75 : Int32) * x3) + 74) - (((75 : Int32) * x3) + 74) / 65537 * 65537)), (4, .int x4), (5, .int x5)] d_Bread_live_24 rfl (by decide) rfl ?_
    refine zs_aload_n 0 d_Bread_live_25 rfl (List.mem_of_getElem? (i := 0) rfl) ?_
    refine zs_iload_n 3 d_Bread_live_26 rfl (List.mem_of_getElem? (i := 2) rfl) ?_
    refine zs_bipush 6 d_Bread_live_27 (by decide) ?_
    refine zs_irem d_Bread_live_29 (by decide) ?_
    obtain ⟨p2, h⟩ := h
    refine zs_callV (kc := 0) (ks := 0) (kc1 := 0) (ks1 := 0) (st := []) [.int (((((75 : Int32) * x3) + 74) - (((75 : Int32) * x3) + 74) / 65537 * 65537) - ((((75 : Int32) * x3) + 74) - (((75 : Int32) * x3) + 74) / 65537 * 65537) / 6 * 6)] d_Bread_live_30 lk_Bread_61 ⟨by decide, by decide⟩ rfl (sh_27 g X) rfl (Nat.le_of_ble_eq_true rfl) (ex_Bread_eats g X M (((((75 : Int32) * x3) + 74) - (((75 : Int32) * x3) + 74) / 65537 * 65537) - ((((75 : Int32) * x3) + 74) - (((75 : Int32) * x3) + 74) / 65537 * 65537) / 6 * 6) p2) (fun v2 sh2 M2 hR => ?_)
    obtain ⟨rfl, rfl, rfl⟩ := hR
    refine zs_if_eq 39 d_Bread_live_33 (by decide) (fun c3 => ?_) (fun c3 => ?_)
    · replace h := h.1 (bI_0 c3)
      refine zs_iinc2 4 (x5 + 1) [1, 2, 3, 4, 0] [(0, .ref 27), (2, .int x2), (3, .int ((((75 : Int32) * x3) + 74) - (((75 : Int32) * x3) + 74) / 65537 * 65537)), (4, .int x4), (5, .int (x5 + 1))] d_Bread_live_39 rfl rfl (by decide) rfl ?_
      refine zs_goto 8 d_Bread_live_42 (by decide) ?_
      exact h
    · replace h := h.2 (bI_1 c3)
      refine zs_iinc2 3 (x4 + 1) [1, 2, 3, 0, 4] [(0, .ref 27), (2, .int x2), (3, .int ((((75 : Int32) * x3) + 74) - (((75 : Int32) * x3) + 74) / 65537 * 65537)), (4, .int (x4 + 1)), (5, .int x5)] d_Bread_live_36 rfl rfl (by decide) rfl ?_
      refine zs_iinc2 4 (x5 + 1) [1, 2, 3, 4, 0] [(0, .ref 27), (2, .int x2), (3, .int ((((75 : Int32) * x3) + 74) - (((75 : Int32) * x3) + 74) / 65537 * 65537)), (4, .int (x4 + 1)), (5, .int (x5 + 1))] d_Bread_live_39 rfl rfl (by decide) rfl ?_
      refine zs_goto 8 d_Bread_live_42 (by decide) ?_
      exact h
theorem kLive_x {a : Nat} (h : a < 65537) : (75 * nI a + 74) - (75 * nI a + 74) / 65537 * 65537 = nI ((75 * a + 74) % 65537) := by
  have e : (75 : Int32) * nI a + 74 = nI (75 * a + 74) := by
    rw [show (75 : Int32) = nI 75 from rfl, show (74 : Int32) = nI 74 from rfl, pk_mul, nI_add]
  rw [e, show (65537 : Int32) = nI 65537 from rfl, pk_rem (by omega) (by decide) (by decide)]
theorem kLive_6 {a : Nat} (h : a < 65537) : nI a - nI a / 6 * 6 = nI (a % 6) := by
  rw [show (6 : Int32) = nI 6 from rfl, pk_rem (by omega) (by decide) (by decide)]
theorem ex_Bread_live (s n : Int32) (hh : kSeed s n) : zEx m_Bread_live 0 0 [.ref 27, .int s, .int n] (SHP g X) M (qF g X (kLive M s n).1 (kLive M s n).2) := by
  refine zEx_of _ (by decide) (by simp [Value.category]) (Nat.le_of_ble_eq_true rfl) rfl (v_Bread_live_0 g X M s n _ ?_)
  obtain ⟨⟨a, ha, rfl⟩, b, hb, rfl⟩ := hh
  unfold kLive
  rw [nI_clamp (by omega), nI_clamp (by omega)]
  have L : ∀ d k x e M1, k + d = b → x < 65537 → zRT m_Bread_live 0 0 8 [(0, .ref 27), (2, .int (nI b)), (3, .int (nI x)), (4, .int e), (5, .int (nI k))] [] (SHP g X) M1 (qF g X (kLvn d x e M1).1 (kLvn d x e M1).2) := by
    intro d
    induction d with
    | zero =>
      intro k x e M1 hk hx
      exact v_Bread_live_8 g X _ _ _ _ _ _ ⟨fun _ => qF_i rfl rfl, fun h => absurd (nI_le (by omega) (by omega)) h⟩
    | succ d ih =>
      intro k x e M1 hk hx
      have hx2 : (75 * x + 74) % 65537 < 65537 := Nat.mod_lt _ (by decide)
      refine v_Bread_live_8 g X _ _ _ _ _ _ ⟨fun h => absurd h (nI_ge (by omega) (by omega)), fun _ => ?_⟩
      rw [nI_1, kLive_x hx, kLive_6 hx2]
      refine ⟨vp_in_nI (by omega) (by decide), fun h => ?_, fun h => ?_⟩
      · have ih := ih (k + 1) ((75 * x + 74) % 65537) e (kEat M1 (nI ((75 * x + 74) % 65537 % 6))).2 (by omega) hx2
        simpa [kLvn, h] using ih
      · have ih := ih (k + 1) ((75 * x + 74) % 65537) (e + 1) (kEat M1 (nI ((75 * x + 74) % 65537 % 6))).2 (by omega) hx2
        simpa [kLvn, h] using ih
  exact L b 0 a 0 M (by omega) (by omega)
end zC4
end
