section
-- ===== PART A: goes FIRST, ahead of the names: the tables' words, and 'selects' of the private methods out of them =====
/-- a private method of a class that the tables say can be made, by its rows of tables_1 -/
def lw_okq (q : MethodName × Nat) : Prop := (q.1.cls ≠ "java/lang/invoke/MethodHandle" ∧ q.1.cls ≠ "java/lang/invoke/VarHandle") ∧ Cond.instantiable q.1.cls q.2 ∈ tables_1 ∧ Cond.privateMethod q.1 ∈ tables_1 ∧ Cond.instanceMethod q.1 ∈ tables_1
theorem lw_p0 : lw_okq (⟨"TwigsAndStones$Walker", "choiceAmong", "(II)I"⟩, 5) := ⟨⟨by decide +kernel, by decide +kernel⟩, List.mem_of_getElem? (i := 102) (by decide +kernel), List.mem_of_getElem? (i := 464) (by decide +kernel), List.mem_of_getElem? (i := 465) (by decide +kernel)⟩
theorem lw_p1 : lw_okq (⟨"TwigsAndStones$Notes", "waysOn", "(III)I"⟩, 4) := ⟨⟨by decide +kernel, by decide +kernel⟩, List.mem_of_getElem? (i := 126) (by decide +kernel), List.mem_of_getElem? (i := 526) (by decide +kernel), List.mem_of_getElem? (i := 527) (by decide +kernel)⟩
theorem lw_p2 : lw_okq (⟨"TwigsAndStones$Notes", "exitsFrom", "(II)I"⟩, 4) := ⟨⟨by decide +kernel, by decide +kernel⟩, List.mem_of_getElem? (i := 126) (by decide +kernel), List.mem_of_getElem? (i := 535) (by decide +kernel), List.mem_of_getElem? (i := 536) (by decide +kernel)⟩
theorem lw_p3 : lw_okq (⟨"TwigsAndStones$Notes", "waysBehind", "(III)I"⟩, 4) := ⟨⟨by decide +kernel, by decide +kernel⟩, List.mem_of_getElem? (i := 126) (by decide +kernel), List.mem_of_getElem? (i := 541) (by decide +kernel), List.mem_of_getElem? (i := 542) (by decide +kernel)⟩
theorem lw_p4 : lw_okq (⟨"TwigsAndStones$Notes", "pathOn", "(III)I"⟩, 4) := ⟨⟨by decide +kernel, by decide +kernel⟩, List.mem_of_getElem? (i := 126) (by decide +kernel), List.mem_of_getElem? (i := 555) (by decide +kernel), List.mem_of_getElem? (i := 556) (by decide +kernel)⟩
theorem lw_p5 : lw_okq (⟨"TwigsAndStones$Route", "mayGoBadlyWrong", "(III)Z"⟩, 4) := ⟨⟨by decide +kernel, by decide +kernel⟩, List.mem_of_getElem? (i := 148) (by decide +kernel), List.mem_of_getElem? (i := 612) (by decide +kernel), List.mem_of_getElem? (i := 613) (by decide +kernel)⟩
theorem lw_p6 : lw_okq (⟨"TwigsAndStones$Route", "isHarmless", "(II)Z"⟩, 4) := ⟨⟨by decide +kernel, by decide +kernel⟩, List.mem_of_getElem? (i := 148) (by decide +kernel), List.mem_of_getElem? (i := 619) (by decide +kernel), List.mem_of_getElem? (i := 620) (by decide +kernel)⟩
theorem lw_p7 : lw_okq (⟨"TwigsAndStones$Trails", "placeAt", "(II)I"⟩, 6) := ⟨⟨by decide +kernel, by decide +kernel⟩, List.mem_of_getElem? (i := 169) (by decide +kernel), List.mem_of_getElem? (i := 659) (by decide +kernel), List.mem_of_getElem? (i := 660) (by decide +kernel)⟩
theorem lw_p8 : lw_okq (⟨"TwigsAndStones$Trails", "indexOf", "(II)I"⟩, 6) := ⟨⟨by decide +kernel, by decide +kernel⟩, List.mem_of_getElem? (i := 169) (by decide +kernel), List.mem_of_getElem? (i := 663) (by decide +kernel), List.mem_of_getElem? (i := 664) (by decide +kernel)⟩
theorem lw_p9 : lw_okq (⟨"TwigsAndStones$Trails", "isFalse", "(I)Z"⟩, 6) := ⟨⟨by decide +kernel, by decide +kernel⟩, List.mem_of_getElem? (i := 169) (by decide +kernel), List.mem_of_getElem? (i := 678) (by decide +kernel), List.mem_of_getElem? (i := 679) (by decide +kernel)⟩
theorem lw_p10 : lw_okq (⟨"TwigsAndStones$Trails", "comesBackToRoute", "(I)Z"⟩, 6) := ⟨⟨by decide +kernel, by decide +kernel⟩, List.mem_of_getElem? (i := 169) (by decide +kernel), List.mem_of_getElem? (i := 683) (by decide +kernel), List.mem_of_getElem? (i := 684) (by decide +kernel)⟩
theorem lw_p11 : lw_okq (⟨"TwigsAndStones$Trails", "wholeLength", "(I)I"⟩, 6) := ⟨⟨by decide +kernel, by decide +kernel⟩, List.mem_of_getElem? (i := 169) (by decide +kernel), List.mem_of_getElem? (i := 687) (by decide +kernel), List.mem_of_getElem? (i := 688) (by decide +kernel)⟩
theorem lw_p12 : lw_okq (⟨"TwigsAndStones$Trails", "crosses", "(II)Z"⟩, 6) := ⟨⟨by decide +kernel, by decide +kernel⟩, List.mem_of_getElem? (i := 169) (by decide +kernel), List.mem_of_getElem? (i := 692) (by decide +kernel), List.mem_of_getElem? (i := 693) (by decide +kernel)⟩
theorem lw_p13 : lw_okq (⟨"TwigsAndStones$Fork", "worstTime", "(I)I"⟩, 3) := ⟨⟨by decide +kernel, by decide +kernel⟩, List.mem_of_getElem? (i := 197) (by decide +kernel), List.mem_of_getElem? (i := 729) (by decide +kernel), List.mem_of_getElem? (i := 730) (by decide +kernel)⟩
theorem lw_p14 : lw_okq (⟨"TwigsAndStones$Fork", "keepTried", "()V"⟩, 3) := ⟨⟨by decide +kernel, by decide +kernel⟩, List.mem_of_getElem? (i := 197) (by decide +kernel), List.mem_of_getElem? (i := 735) (by decide +kernel), List.mem_of_getElem? (i := 736) (by decide +kernel)⟩
theorem lw_p15 : lw_okq (⟨"TwigsAndStones$Fork", "takeNextSplit", "(I)Z"⟩, 3) := ⟨⟨by decide +kernel, by decide +kernel⟩, List.mem_of_getElem? (i := 197) (by decide +kernel), List.mem_of_getElem? (i := 739) (by decide +kernel), List.mem_of_getElem? (i := 740) (by decide +kernel)⟩
def lw_privs_1 : List (MethodName × Nat) := [(⟨"TwigsAndStones$Walker", "choiceAmong", "(II)I"⟩, 5), (⟨"TwigsAndStones$Notes", "waysOn", "(III)I"⟩, 4), (⟨"TwigsAndStones$Notes", "exitsFrom", "(II)I"⟩, 4), (⟨"TwigsAndStones$Notes", "waysBehind", "(III)I"⟩, 4), (⟨"TwigsAndStones$Notes", "pathOn", "(III)I"⟩, 4), (⟨"TwigsAndStones$Route", "mayGoBadlyWrong", "(III)Z"⟩, 4), (⟨"TwigsAndStones$Route", "isHarmless", "(II)Z"⟩, 4), (⟨"TwigsAndStones$Trails", "placeAt", "(II)I"⟩, 6), (⟨"TwigsAndStones$Trails", "indexOf", "(II)I"⟩, 6), (⟨"TwigsAndStones$Trails", "isFalse", "(I)Z"⟩, 6), (⟨"TwigsAndStones$Trails", "comesBackToRoute", "(I)Z"⟩, 6), (⟨"TwigsAndStones$Trails", "wholeLength", "(I)I"⟩, 6), (⟨"TwigsAndStones$Trails", "crosses", "(II)Z"⟩, 6), (⟨"TwigsAndStones$Fork", "worstTime", "(I)I"⟩, 3), (⟨"TwigsAndStones$Fork", "keepTried", "()V"⟩, 3), (⟨"TwigsAndStones$Fork", "takeNextSplit", "(I)Z"⟩, 3)]
theorem lw_r1 : ∀ q ∈ lw_privs_1, lw_okq q := List.forall_mem_cons.mpr ⟨lw_p0, List.forall_mem_cons.mpr ⟨lw_p1, List.forall_mem_cons.mpr ⟨lw_p2, List.forall_mem_cons.mpr ⟨lw_p3, List.forall_mem_cons.mpr ⟨lw_p4, List.forall_mem_cons.mpr ⟨lw_p5, List.forall_mem_cons.mpr ⟨lw_p6, List.forall_mem_cons.mpr ⟨lw_p7, List.forall_mem_cons.mpr ⟨lw_p8, List.forall_mem_cons.mpr ⟨lw_p9, List.forall_mem_cons.mpr ⟨lw_p10, List.forall_mem_cons.mpr ⟨lw_p11, List.forall_mem_cons.mpr ⟨lw_p12, List.forall_mem_cons.mpr ⟨lw_p13, List.forall_mem_cons.mpr ⟨lw_p14, List.forall_mem_cons.mpr ⟨lw_p15, fun _ h => absurd h List.not_mem_nil⟩⟩⟩⟩⟩⟩⟩⟩⟩⟩⟩⟩⟩⟩⟩⟩
theorem lw_p16 : lw_okq (⟨"TwigsAndStones$Fork", "comesBefore", "(II)Z"⟩, 3) := ⟨⟨by decide +kernel, by decide +kernel⟩, List.mem_of_getElem? (i := 197) (by decide +kernel), List.mem_of_getElem? (i := 756) (by decide +kernel), List.mem_of_getElem? (i := 757) (by decide +kernel)⟩
theorem lw_p17 : lw_okq (⟨"TwigsAndStones$Clubs", "lastHue", "(II)I"⟩, 4) := ⟨⟨by decide +kernel, by decide +kernel⟩, List.mem_of_getElem? (i := 216) (by decide +kernel), List.mem_of_getElem? (i := 799) (by decide +kernel), List.mem_of_getElem? (i := 800) (by decide +kernel)⟩
theorem lw_p18 : lw_okq (⟨"TwigsAndStones$Clubs", "everHad", "(III)Z"⟩, 4) := ⟨⟨by decide +kernel, by decide +kernel⟩, List.mem_of_getElem? (i := 216) (by decide +kernel), List.mem_of_getElem? (i := 804) (by decide +kernel), List.mem_of_getElem? (i := 805) (by decide +kernel)⟩
theorem lw_p19 : lw_okq (⟨"TwigsAndStonesModel", "joins", "(II)I"⟩, 41) := ⟨⟨by decide +kernel, by decide +kernel⟩, List.mem_of_getElem? (i := 817) (by decide +kernel), List.mem_of_getElem? (i := 958) (by decide +kernel), List.mem_of_getElem? (i := 959) (by decide +kernel)⟩
theorem lw_p20 : lw_okq (⟨"TwigsAndStonesModel", "isAt", "(II)Z"⟩, 41) := ⟨⟨by decide +kernel, by decide +kernel⟩, List.mem_of_getElem? (i := 817) (by decide +kernel), List.mem_of_getElem? (i := 962) (by decide +kernel), List.mem_of_getElem? (i := 963) (by decide +kernel)⟩
theorem lw_p21 : lw_okq (⟨"TwigsAndStonesModel", "pathsAt", "(I)I"⟩, 41) := ⟨⟨by decide +kernel, by decide +kernel⟩, List.mem_of_getElem? (i := 817) (by decide +kernel), List.mem_of_getElem? (i := 978) (by decide +kernel), List.mem_of_getElem? (i := 979) (by decide +kernel)⟩
theorem lw_p22 : lw_okq (⟨"TwigsAndStonesModel", "seenBy", "(II)I"⟩, 41) := ⟨⟨by decide +kernel, by decide +kernel⟩, List.mem_of_getElem? (i := 817) (by decide +kernel), List.mem_of_getElem? (i := 998) (by decide +kernel), List.mem_of_getElem? (i := 999) (by decide +kernel)⟩
theorem lw_p23 : lw_okq (⟨"TwigsAndStonesModel", "goWalk", "(I)V"⟩, 41) := ⟨⟨by decide +kernel, by decide +kernel⟩, List.mem_of_getElem? (i := 817) (by decide +kernel), List.mem_of_getElem? (i := 1006) (by decide +kernel), List.mem_of_getElem? (i := 1007) (by decide +kernel)⟩
theorem lw_p24 : lw_okq (⟨"TwigsAndStonesModel", "goesBy", "(II)I"⟩, 41) := ⟨⟨by decide +kernel, by decide +kernel⟩, List.mem_of_getElem? (i := 817) (by decide +kernel), List.mem_of_getElem? (i := 1010) (by decide +kernel), List.mem_of_getElem? (i := 1011) (by decide +kernel)⟩
theorem lw_p25 : lw_okq (⟨"TwigsAndStonesModel", "otherEnd", "(II)I"⟩, 41) := ⟨⟨by decide +kernel, by decide +kernel⟩, List.mem_of_getElem? (i := 817) (by decide +kernel), List.mem_of_getElem? (i := 1014) (by decide +kernel), List.mem_of_getElem? (i := 1015) (by decide +kernel)⟩
theorem lw_p26 : lw_okq (⟨"TwigsAndStonesModel", "findWays", "()V"⟩, 41) := ⟨⟨by decide +kernel, by decide +kernel⟩, List.mem_of_getElem? (i := 817) (by decide +kernel), List.mem_of_getElem? (i := 1034) (by decide +kernel), List.mem_of_getElem? (i := 1035) (by decide +kernel)⟩
theorem lw_p27 : lw_okq (⟨"TwigsAndStonesModel", "isNoted", "(III)Z"⟩, 41) := ⟨⟨by decide +kernel, by decide +kernel⟩, List.mem_of_getElem? (i := 817) (by decide +kernel), List.mem_of_getElem? (i := 1038) (by decide +kernel), List.mem_of_getElem? (i := 1039) (by decide +kernel)⟩
theorem lw_p28 : lw_okq (⟨"TwigsAndStonesModel", "mayGo", "(III)Z"⟩, 41) := ⟨⟨by decide +kernel, by decide +kernel⟩, List.mem_of_getElem? (i := 817) (by decide +kernel), List.mem_of_getElem? (i := 1042) (by decide +kernel), List.mem_of_getElem? (i := 1043) (by decide +kernel)⟩
theorem lw_p29 : lw_okq (⟨"TwigsAndStonesModel", "isNeeded", "(III)Z"⟩, 41) := ⟨⟨by decide +kernel, by decide +kernel⟩, List.mem_of_getElem? (i := 817) (by decide +kernel), List.mem_of_getElem? (i := 1062) (by decide +kernel), List.mem_of_getElem? (i := 1063) (by decide +kernel)⟩
theorem lw_p30 : lw_okq (⟨"TwigsAndStonesModel", "isHarmless", "(II)Z"⟩, 41) := ⟨⟨by decide +kernel, by decide +kernel⟩, List.mem_of_getElem? (i := 817) (by decide +kernel), List.mem_of_getElem? (i := 1066) (by decide +kernel), List.mem_of_getElem? (i := 1067) (by decide +kernel)⟩
theorem lw_p31 : lw_okq (⟨"TwigsAndStonesModel", "isOnRoute", "(I)Z"⟩, 41) := ⟨⟨by decide +kernel, by decide +kernel⟩, List.mem_of_getElem? (i := 817) (by decide +kernel), List.mem_of_getElem? (i := 1082) (by decide +kernel), List.mem_of_getElem? (i := 1083) (by decide +kernel)⟩
def lw_privs_2 : List (MethodName × Nat) := [(⟨"TwigsAndStones$Fork", "comesBefore", "(II)Z"⟩, 3), (⟨"TwigsAndStones$Clubs", "lastHue", "(II)I"⟩, 4), (⟨"TwigsAndStones$Clubs", "everHad", "(III)Z"⟩, 4), (⟨"TwigsAndStonesModel", "joins", "(II)I"⟩, 41), (⟨"TwigsAndStonesModel", "isAt", "(II)Z"⟩, 41), (⟨"TwigsAndStonesModel", "pathsAt", "(I)I"⟩, 41), (⟨"TwigsAndStonesModel", "seenBy", "(II)I"⟩, 41), (⟨"TwigsAndStonesModel", "goWalk", "(I)V"⟩, 41), (⟨"TwigsAndStonesModel", "goesBy", "(II)I"⟩, 41), (⟨"TwigsAndStonesModel", "otherEnd", "(II)I"⟩, 41), (⟨"TwigsAndStonesModel", "findWays", "()V"⟩, 41), (⟨"TwigsAndStonesModel", "isNoted", "(III)Z"⟩, 41), (⟨"TwigsAndStonesModel", "mayGo", "(III)Z"⟩, 41), (⟨"TwigsAndStonesModel", "isNeeded", "(III)Z"⟩, 41), (⟨"TwigsAndStonesModel", "isHarmless", "(II)Z"⟩, 41), (⟨"TwigsAndStonesModel", "isOnRoute", "(I)Z"⟩, 41)]
theorem lw_r2 : ∀ q ∈ lw_privs_2, lw_okq q := List.forall_mem_cons.mpr ⟨lw_p16, List.forall_mem_cons.mpr ⟨lw_p17, List.forall_mem_cons.mpr ⟨lw_p18, List.forall_mem_cons.mpr ⟨lw_p19, List.forall_mem_cons.mpr ⟨lw_p20, List.forall_mem_cons.mpr ⟨lw_p21, List.forall_mem_cons.mpr ⟨lw_p22, List.forall_mem_cons.mpr ⟨lw_p23, List.forall_mem_cons.mpr ⟨lw_p24, List.forall_mem_cons.mpr ⟨lw_p25, List.forall_mem_cons.mpr ⟨lw_p26, List.forall_mem_cons.mpr ⟨lw_p27, List.forall_mem_cons.mpr ⟨lw_p28, List.forall_mem_cons.mpr ⟨lw_p29, List.forall_mem_cons.mpr ⟨lw_p30, List.forall_mem_cons.mpr ⟨lw_p31, fun _ h => absurd h List.not_mem_nil⟩⟩⟩⟩⟩⟩⟩⟩⟩⟩⟩⟩⟩⟩⟩⟩
theorem lw_p32 : lw_okq (⟨"TwigsAndStonesModel", "doCross", "(II)Z"⟩, 41) := ⟨⟨by decide +kernel, by decide +kernel⟩, List.mem_of_getElem? (i := 817) (by decide +kernel), List.mem_of_getElem? (i := 1086) (by decide +kernel), List.mem_of_getElem? (i := 1087) (by decide +kernel)⟩
theorem lw_p33 : lw_okq (⟨"TwigsAndStonesModel", "findSplit", "(I)I"⟩, 41) := ⟨⟨by decide +kernel, by decide +kernel⟩, List.mem_of_getElem? (i := 817) (by decide +kernel), List.mem_of_getElem? (i := 1102) (by decide +kernel), List.mem_of_getElem? (i := 1103) (by decide +kernel)⟩
theorem lw_p34 : lw_okq (⟨"TwigsAndStonesModel", "foundAt", "(III)I"⟩, 41) := ⟨⟨by decide +kernel, by decide +kernel⟩, List.mem_of_getElem? (i := 817) (by decide +kernel), List.mem_of_getElem? (i := 1106) (by decide +kernel), List.mem_of_getElem? (i := 1107) (by decide +kernel)⟩
theorem lw_p35 : lw_okq (⟨"TwigsAndStonesModel", "houndOf", "(III)I"⟩, 41) := ⟨⟨by decide +kernel, by decide +kernel⟩, List.mem_of_getElem? (i := 817) (by decide +kernel), List.mem_of_getElem? (i := 1110) (by decide +kernel), List.mem_of_getElem? (i := 1111) (by decide +kernel)⟩
theorem lw_p36 : lw_okq (⟨"TwigsAndStonesModel", "colourTo", "(III)I"⟩, 41) := ⟨⟨by decide +kernel, by decide +kernel⟩, List.mem_of_getElem? (i := 817) (by decide +kernel), List.mem_of_getElem? (i := 1130) (by decide +kernel), List.mem_of_getElem? (i := 1131) (by decide +kernel)⟩
def lw_privs_3 : List (MethodName × Nat) := [(⟨"TwigsAndStonesModel", "doCross", "(II)Z"⟩, 41), (⟨"TwigsAndStonesModel", "findSplit", "(I)I"⟩, 41), (⟨"TwigsAndStonesModel", "foundAt", "(III)I"⟩, 41), (⟨"TwigsAndStonesModel", "houndOf", "(III)I"⟩, 41), (⟨"TwigsAndStonesModel", "colourTo", "(III)I"⟩, 41)]
theorem lw_r3 : ∀ q ∈ lw_privs_3, lw_okq q := List.forall_mem_cons.mpr ⟨lw_p32, List.forall_mem_cons.mpr ⟨lw_p33, List.forall_mem_cons.mpr ⟨lw_p34, List.forall_mem_cons.mpr ⟨lw_p35, List.forall_mem_cons.mpr ⟨lw_p36, fun _ h => absurd h List.not_mem_nil⟩⟩⟩⟩⟩
def lw_privs : List (MethodName × Nat) := lw_privs_1 ++ (lw_privs_2 ++ (lw_privs_3))
def lw_tbl : List Cond := k2_sels lw_privs ++ tables_1
theorem lw_privs_ok : ∀ q ∈ lw_privs, lw_okq q := by
  show ∀ q ∈ lw_privs_1 ++ (lw_privs_2 ++ (lw_privs_3)), lw_okq q
  exact List.forall_mem_append.mpr ⟨lw_r1, List.forall_mem_append.mpr ⟨lw_r2, lw_r3⟩⟩
end
section
/-! ===== BEGIN words of one list among another's, by their places ===== -/
theorem goodIn_r {big : List Cond} (ws : List Cond) (ps : List Nat) (hp : ws = ps.filterMap (fun i => big[i]?)) (h : ws.all goodWord = true) : GoodIn big ws := by
  intro w hw
  have h1 := List.all_eq_true.mp h w hw
  rw [hp] at hw
  obtain ⟨i, -, hi⟩ := List.mem_filterMap.mp hw
  have hm : w ∈ big := by first | exact List.mem_of_getElem? hi | exact List.getElem?_mem hi
  exact ⟨hm, good_of_word h1⟩
theorem goodIn_app {big a b : List Cond} (ha : GoodIn big a) (hb : GoodIn big b) : GoodIn big (a ++ b) := fun w h => (List.mem_append.mp h).elim (ha w) (hb w)
theorem goodIn_ca {big a b : List Cond} {c : Cond} (ha : GoodIn big (c :: a)) (hb : GoodIn big b) : GoodIn big (c :: (a ++ b)) := fun w h => (List.mem_cons.mp h).elim (fun e => ha w (List.mem_cons.mpr (Or.inl e))) (fun h => (List.mem_append.mp h).elim (fun h => ha w (List.mem_cons.mpr (Or.inr h))) (hb w))
theorem goodIn_sub {big ws : List Cond} (hm : ∀ w ∈ ws, w ∈ big) (h : ws.all goodWord = true) : GoodIn big ws := fun w hw => ⟨hm w hw, good_of_word (List.all_eq_true.mp h w hw)⟩
/-! ===== END ===== -/

/-! ===== BEGIN printed: names, fields, word lists, decode rows ===== -/
def RX0 : String := "TwigsAndStones$Clubs"
def TX0 : u_T := fun k => match k with
  | 0 => ("TwigsAndStones$Clubs", "pathsByClub", "LTwigsAndStones$Row;", true)
  | 1 => ("TwigsAndStones$Clubs", "toldClubs", "LTwigsAndStones$Row;", true)
  | 2 => ("TwigsAndStones$Clubs", "toldHues", "LTwigsAndStones$Row;", true)
  | _ => ("TwigsAndStones$Clubs", "toldDays", "LTwigsAndStones$Row;", true)
def tyX0 : Nat → FieldType := fun k => match k with
  | 0 => .object "TwigsAndStones$Row"
  | 1 => .object "TwigsAndStones$Row"
  | 2 => .object "TwigsAndStones$Row"
  | _ => .object "TwigsAndStones$Row"
abbrev wsX00 : List Cond := u_ws RX0 TX0 4
theorem nmX0 : ∀ a, a < 4 → ∀ b, b < 4 → a ≠ b → (TX0 a).2.1 ≠ (TX0 b).2.1 := by decide +kernel
theorem tyX0_ok : ∀ k, k < 4 → parseFieldDescriptor (TX0 k).2.2.1 = some (tyX0 k) := by decide +kernel
abbrev cX0_init : ByteArray := prog_2_method_1_code
def yX0_init : MethodName := ⟨RX0, "<init>", "()V"⟩
abbrev cX0_changePaths : ByteArray := prog_2_method_2_code
def yX0_changePaths : MethodName := ⟨RX0, "changePaths", "(II)I"⟩
abbrev cX0_toldColours : ByteArray := prog_2_method_3_code
def yX0_toldColours : MethodName := ⟨RX0, "toldColours", "()I"⟩
abbrev cX0_tellColour : ByteArray := prog_2_method_4_code
def yX0_tellColour : MethodName := ⟨RX0, "tellColour", "(III)I"⟩
abbrev cX0_ownersOf : ByteArray := prog_2_method_5_code
def yX0_ownersOf : MethodName := ⟨RX0, "ownersOf", "(IIIZ)I"⟩
abbrev cX0_lastHue : ByteArray := prog_2_method_6_code
def yX0_lastHue : MethodName := ⟨RX0, "lastHue", "(II)I"⟩
abbrev cX0_everHad : ByteArray := prog_2_method_7_code
def yX0_everHad : MethodName := ⟨RX0, "everHad", "(III)Z"⟩
def RX1 : String := "TwigsAndStones$Fork"
def TX1 : u_T := fun k => match k with
  | 0 => ("TwigsAndStones$Fork", "lengths", "LTwigsAndStones$Row;", true)
  | 1 => ("TwigsAndStones$Fork", "tried", "LTwigsAndStones$Row;", true)
  | _ => ("TwigsAndStones$Fork", "best", "LTwigsAndStones$Row;", true)
def tyX1 : Nat → FieldType := fun k => match k with
  | 0 => .object "TwigsAndStones$Row"
  | 1 => .object "TwigsAndStones$Row"
  | _ => .object "TwigsAndStones$Row"
abbrev wsX10 : List Cond := u_ws RX1 TX1 3
theorem nmX1 : ∀ a, a < 3 → ∀ b, b < 3 → a ≠ b → (TX1 a).2.1 ≠ (TX1 b).2.1 := by decide +kernel
theorem tyX1_ok : ∀ k, k < 3 → parseFieldDescriptor (TX1 k).2.2.1 = some (tyX1 k) := by decide +kernel
abbrev cX1_init : ByteArray := prog_3_method_1_code
def yX1_init : MethodName := ⟨RX1, "<init>", "()V"⟩
abbrev cX1_branchCount : ByteArray := prog_3_method_2_code
def yX1_branchCount : MethodName := ⟨RX1, "branchCount", "()I"⟩
abbrev cX1_grow : ByteArray := prog_3_method_3_code
def yX1_grow : MethodName := ⟨RX1, "grow", "(I)I"⟩
abbrev cX1_dropAll : ByteArray := prog_3_method_4_code
def yX1_dropAll : MethodName := ⟨RX1, "dropAll", "()I"⟩
abbrev cX1_houndOf : ByteArray := prog_3_method_5_code
def yX1_houndOf : MethodName := ⟨RX1, "houndOf", "(I)I"⟩
abbrev cX1_findBestSplit : ByteArray := prog_3_method_6_code
def yX1_findBestSplit : MethodName := ⟨RX1, "findBestSplit", "(I)I"⟩
abbrev cX1_keepTried : ByteArray := prog_3_method_7_code
def yX1_keepTried : MethodName := ⟨RX1, "keepTried", "()V"⟩
abbrev cX1_takeNextSplit : ByteArray := prog_3_method_8_code
def yX1_takeNextSplit : MethodName := ⟨RX1, "takeNextSplit", "(I)Z"⟩
abbrev cX1_worstTime : ByteArray := prog_3_method_9_code
def yX1_worstTime : MethodName := ⟨RX1, "worstTime", "(I)I"⟩
abbrev cX1_timeOf : ByteArray := prog_3_method_10_code
def yX1_timeOf : MethodName := ⟨RX1, "timeOf", "(I)I"⟩
abbrev cX1_comesBefore : ByteArray := prog_3_method_11_code
def yX1_comesBefore : MethodName := ⟨RX1, "comesBefore", "(II)Z"⟩
def RX2 : String := "TwigsAndStones$Net"
def TX2 : u_T := fun k => match k with
  | 0 => ("TwigsAndStones$Net", "firsts", "LTwigsAndStones$Row;", true)
  | 1 => ("TwigsAndStones$Net", "seconds", "LTwigsAndStones$Row;", true)
  | 2 => ("TwigsAndStones$Net", "lengths", "LTwigsAndStones$Row;", true)
  | _ => ("TwigsAndStones$Net", "pathsByPlace", "LTwigsAndStones$Row;", true)
def tyX2 : Nat → FieldType := fun k => match k with
  | 0 => .object "TwigsAndStones$Row"
  | 1 => .object "TwigsAndStones$Row"
  | 2 => .object "TwigsAndStones$Row"
  | _ => .object "TwigsAndStones$Row"
abbrev wsX20 : List Cond := u_ws RX2 TX2 4
theorem nmX2 : ∀ a, a < 4 → ∀ b, b < 4 → a ≠ b → (TX2 a).2.1 ≠ (TX2 b).2.1 := by decide +kernel
theorem tyX2_ok : ∀ k, k < 4 → parseFieldDescriptor (TX2 k).2.2.1 = some (tyX2 k) := by decide +kernel
abbrev cX2_init : ByteArray := prog_4_method_1_code
def yX2_init : MethodName := ⟨RX2, "<init>", "()V"⟩
abbrev cX2_pathCount : ByteArray := prog_4_method_2_code
def yX2_pathCount : MethodName := ⟨RX2, "pathCount", "()I"⟩
abbrev cX2_join : ByteArray := prog_4_method_3_code
def yX2_join : MethodName := ⟨RX2, "join", "(III)I"⟩
abbrev cX2_pathsAt : ByteArray := prog_4_method_4_code
def yX2_pathsAt : MethodName := ⟨RX2, "pathsAt", "(I)I"⟩
abbrev cX2_allPaths : ByteArray := prog_4_method_5_code
def yX2_allPaths : MethodName := ⟨RX2, "allPaths", "()I"⟩
abbrev cX2_touches : ByteArray := prog_4_method_6_code
def yX2_touches : MethodName := ⟨RX2, "touches", "(II)Z"⟩
abbrev cX2_joining : ByteArray := prog_4_method_7_code
def yX2_joining : MethodName := ⟨RX2, "joining", "(II)I"⟩
abbrev cX2_lengthOf : ByteArray := prog_4_method_8_code
def yX2_lengthOf : MethodName := ⟨RX2, "lengthOf", "(I)I"⟩
abbrev cX2_arcFrom : ByteArray := prog_4_method_9_code
def yX2_arcFrom : MethodName := ⟨RX2, "arcFrom", "(II)I"⟩
abbrev cX2_endOf : ByteArray := prog_4_method_10_code
def yX2_endOf : MethodName := ⟨RX2, "endOf", "(I)I"⟩
abbrev cX2_otherEnd : ByteArray := prog_4_method_11_code
def yX2_otherEnd : MethodName := ⟨RX2, "otherEnd", "(II)I"⟩
def RX3 : String := "TwigsAndStones$Notes"
def TX3 : u_T := fun k => match k with
  | 0 => ("TwigsAndStones$Notes", "net", "LTwigsAndStones$Net;", true)
  | 1 => ("TwigsAndStones$Notes", "signs", "LTwigsAndStones$Signs;", true)
  | 2 => ("TwigsAndStones$Notes", "noted", "LTwigsAndStones$Row;", true)
  | _ => ("TwigsAndStones$Notes", "waysByArc", "LTwigsAndStones$Row;", true)
def tyX3 : Nat → FieldType := fun k => match k with
  | 0 => .object "TwigsAndStones$Net"
  | 1 => .object "TwigsAndStones$Signs"
  | 2 => .object "TwigsAndStones$Row"
  | _ => .object "TwigsAndStones$Row"
abbrev wsX30 : List Cond := u_ws RX3 TX3 4
theorem nmX3 : ∀ a, a < 4 → ∀ b, b < 4 → a ≠ b → (TX3 a).2.1 ≠ (TX3 b).2.1 := by decide +kernel
theorem tyX3_ok : ∀ k, k < 4 → parseFieldDescriptor (TX3 k).2.2.1 = some (tyX3 k) := by decide +kernel
abbrev cX3_init : ByteArray := prog_5_method_1_code
def yX3_init : MethodName := ⟨RX3, "<init>", "(LTwigsAndStones$Net;LTwigsAndStones$Signs;)V"⟩
abbrev cX3_noteCount : ByteArray := prog_5_method_2_code
def yX3_noteCount : MethodName := ⟨RX3, "noteCount", "()I"⟩
abbrev cX3_takeDown : ByteArray := prog_5_method_3_code
def yX3_takeDown : MethodName := ⟨RX3, "takeDown", "(I)I"⟩
abbrev cX3_dropAll : ByteArray := prog_5_method_4_code
def yX3_dropAll : MethodName := ⟨RX3, "dropAll", "()I"⟩
abbrev cX3_waysFrom : ByteArray := prog_5_method_5_code
def yX3_waysFrom : MethodName := ⟨RX3, "waysFrom", "(I)I"⟩
abbrev cX3_waysOn : ByteArray := prog_5_method_6_code
def yX3_waysOn : MethodName := ⟨RX3, "waysOn", "(III)I"⟩
abbrev cX3_exitsFrom : ByteArray := prog_5_method_7_code
def yX3_exitsFrom : MethodName := ⟨RX3, "exitsFrom", "(II)I"⟩
abbrev cX3_waysBehind : ByteArray := prog_5_method_8_code
def yX3_waysBehind : MethodName := ⟨RX3, "waysBehind", "(III)I"⟩
abbrev cX3_placeOnTheWay : ByteArray := prog_5_method_9_code
def yX3_placeOnTheWay : MethodName := ⟨RX3, "placeOnTheWay", "(II)I"⟩
abbrev cX3_pathOn : ByteArray := prog_5_method_10_code
def yX3_pathOn : MethodName := ⟨RX3, "pathOn", "(III)I"⟩
def RX4 : String := "TwigsAndStones$Route"
def TX4 : u_T := fun k => match k with
  | 0 => ("TwigsAndStones$Route", "net", "LTwigsAndStones$Net;", true)
  | 1 => ("TwigsAndStones$Route", "walker", "LTwigsAndStones$Walker;", true)
  | 2 => ("TwigsAndStones$Route", "places", "LTwigsAndStones$Row;", true)
  | _ => ("TwigsAndStones$Route", "leeway", "I", false)
def tyX4 : Nat → FieldType := fun k => match k with
  | 0 => .object "TwigsAndStones$Net"
  | 1 => .object "TwigsAndStones$Walker"
  | 2 => .object "TwigsAndStones$Row"
  | _ => .int
abbrev wsX40 : List Cond := u_ws RX4 TX4 4
theorem nmX4 : ∀ a, a < 4 → ∀ b, b < 4 → a ≠ b → (TX4 a).2.1 ≠ (TX4 b).2.1 := by decide +kernel
theorem tyX4_ok : ∀ k, k < 4 → parseFieldDescriptor (TX4 k).2.2.1 = some (tyX4 k) := by decide +kernel
abbrev cX4_init : ByteArray := prog_6_method_1_code
def yX4_init : MethodName := ⟨RX4, "<init>", "(LTwigsAndStones$Net;LTwigsAndStones$Walker;)V"⟩
abbrev cX4_placeCount : ByteArray := prog_6_method_2_code
def yX4_placeCount : MethodName := ⟨RX4, "placeCount", "()I"⟩
abbrev cX4_passes : ByteArray := prog_6_method_3_code
def yX4_passes : MethodName := ⟨RX4, "passes", "(I)Z"⟩
abbrev cX4_changeLeeway : ByteArray := prog_6_method_4_code
def yX4_changeLeeway : MethodName := ⟨RX4, "changeLeeway", "(I)I"⟩
abbrev cX4_mayGoOnTo : ByteArray := prog_6_method_5_code
def yX4_mayGoOnTo : MethodName := ⟨RX4, "mayGoOnTo", "(I)Z"⟩
abbrev cX4_goOnTo : ByteArray := prog_6_method_6_code
def yX4_goOnTo : MethodName := ⟨RX4, "goOnTo", "(I)I"⟩
abbrev cX4_dropAll : ByteArray := prog_6_method_7_code
def yX4_dropAll : MethodName := ⟨RX4, "dropAll", "()I"⟩
abbrev cX4_marksNeeded : ByteArray := prog_6_method_8_code
def yX4_marksNeeded : MethodName := ⟨RX4, "marksNeeded", "(I)I"⟩
abbrev cX4_mayGoBadlyWrong : ByteArray := prog_6_method_9_code
def yX4_mayGoBadlyWrong : MethodName := ⟨RX4, "mayGoBadlyWrong", "(III)Z"⟩
abbrev cX4_isHarmless : ByteArray := prog_6_method_10_code
def yX4_isHarmless : MethodName := ⟨RX4, "isHarmless", "(II)Z"⟩
def RX5 : String := "TwigsAndStones$Row"
def TX5 : u_T := fun k => match k with
  | 0 => ("TwigsAndStones$Row", "cells", "[I", true)
  | _ => ("TwigsAndStones$Row", "size", "I", false)
def tyX5 : Nat → FieldType := fun k => match k with
  | 0 => .array .int
  | _ => .int
abbrev wsX50 : List Cond := u_ws RX5 TX5 2
theorem nmX5 : ∀ a, a < 2 → ∀ b, b < 2 → a ≠ b → (TX5 a).2.1 ≠ (TX5 b).2.1 := by decide +kernel
theorem tyX5_ok : ∀ k, k < 2 → parseFieldDescriptor (TX5 k).2.2.1 = some (tyX5 k) := by decide +kernel
abbrev cX5_init : ByteArray := prog_7_method_1_code
def yX5_init : MethodName := ⟨RX5, "<init>", "(I)V"⟩
abbrev cX5_filled : ByteArray := prog_7_method_2_code
def yX5_filled : MethodName := ⟨RX5, "filled", "()LTwigsAndStones$Row;"⟩
abbrev cX5_size : ByteArray := prog_7_method_3_code
def yX5_size : MethodName := ⟨RX5, "size", "()I"⟩
abbrev cX5_get : ByteArray := prog_7_method_4_code
def yX5_get : MethodName := ⟨RX5, "get", "(I)I"⟩
abbrev cX5_put : ByteArray := prog_7_method_5_code
def yX5_put : MethodName := ⟨RX5, "put", "(II)V"⟩
abbrev cX5_push : ByteArray := prog_7_method_6_code
def yX5_push : MethodName := ⟨RX5, "push", "(I)I"⟩
abbrev cX5_has : ByteArray := prog_7_method_7_code
def yX5_has : MethodName := ⟨RX5, "has", "(I)Z"⟩
abbrev cX5_clear : ByteArray := prog_7_method_8_code
def yX5_clear : MethodName := ⟨RX5, "clear", "()I"⟩
def RX6 : String := "TwigsAndStones$Signs"
def TX6 : u_T := fun k => match k with
  | 0 => ("TwigsAndStones$Signs", "net", "LTwigsAndStones$Net;", true)
  | 1 => ("TwigsAndStones$Signs", "places", "LTwigsAndStones$Row;", true)
  | 2 => ("TwigsAndStones$Signs", "kinds", "LTwigsAndStones$Row;", true)
  | 3 => ("TwigsAndStones$Signs", "values", "LTwigsAndStones$Row;", true)
  | 4 => ("TwigsAndStones$Signs", "lives", "LTwigsAndStones$Row;", true)
  | 5 => ("TwigsAndStones$Signs", "laidOn", "LTwigsAndStones$Row;", true)
  | 6 => ("TwigsAndStones$Signs", "turned", "LTwigsAndStones$Row;", true)
  | 7 => ("TwigsAndStones$Signs", "seenBy", "LTwigsAndStones$Row;", true)
  | 8 => ("TwigsAndStones$Signs", "day", "I", false)
  | 9 => ("TwigsAndStones$Signs", "weatherNow", "I", false)
  | _ => ("TwigsAndStones$Signs", "fog", "I", false)
def tyX6 : Nat → FieldType := fun k => match k with
  | 0 => .object "TwigsAndStones$Net"
  | 1 => .object "TwigsAndStones$Row"
  | 2 => .object "TwigsAndStones$Row"
  | 3 => .object "TwigsAndStones$Row"
  | 4 => .object "TwigsAndStones$Row"
  | 5 => .object "TwigsAndStones$Row"
  | 6 => .object "TwigsAndStones$Row"
  | 7 => .object "TwigsAndStones$Row"
  | 8 => .int
  | 9 => .int
  | _ => .int
abbrev wsX60 : List Cond := u_ws RX6 TX6 11
theorem nmX6 : ∀ a, a < 11 → ∀ b, b < 11 → a ≠ b → (TX6 a).2.1 ≠ (TX6 b).2.1 := by decide +kernel
theorem tyX6_ok : ∀ k, k < 11 → parseFieldDescriptor (TX6 k).2.2.1 = some (tyX6 k) := by decide +kernel
abbrev cX6_init : ByteArray := prog_8_method_1_code
def yX6_init : MethodName := ⟨RX6, "<init>", "(LTwigsAndStones$Net;)V"⟩
abbrev cX6_signCount : ByteArray := prog_8_method_2_code
def yX6_signCount : MethodName := ⟨RX6, "signCount", "()I"⟩
abbrev cX6_today : ByteArray := prog_8_method_3_code
def yX6_today : MethodName := ⟨RX6, "today", "()I"⟩
abbrev cX6_changeWeather : ByteArray := prog_8_method_4_code
def yX6_changeWeather : MethodName := ⟨RX6, "changeWeather", "(I)I"⟩
abbrev cX6_changeFog : ByteArray := prog_8_method_5_code
def yX6_changeFog : MethodName := ⟨RX6, "changeFog", "(I)I"⟩
abbrev cX6_letDaysGoBy : ByteArray := prog_8_method_6_code
def yX6_letDaysGoBy : MethodName := ⟨RX6, "letDaysGoBy", "(I)I"⟩
abbrev cX6_lay : ByteArray := prog_8_method_7_code
def yX6_lay : MethodName := ⟨RX6, "lay", "(IIIIIZ)I"⟩
abbrev cX6_pointTo : ByteArray := prog_8_method_8_code
def yX6_pointTo : MethodName := ⟨RX6, "pointTo", "(II)I"⟩
abbrev cX6_placeOf : ByteArray := prog_8_method_9_code
def yX6_placeOf : MethodName := ⟨RX6, "placeOf", "(I)I"⟩
abbrev cX6_kindOf : ByteArray := prog_8_method_10_code
def yX6_kindOf : MethodName := ⟨RX6, "kindOf", "(I)I"⟩
abbrev cX6_valueOf : ByteArray := prog_8_method_11_code
def yX6_valueOf : MethodName := ⟨RX6, "valueOf", "(I)I"⟩
abbrev cX6_isGone : ByteArray := prog_8_method_12_code
def yX6_isGone : MethodName := ⟨RX6, "isGone", "(I)Z"⟩
abbrev cX6_tell : ByteArray := prog_8_method_13_code
def yX6_tell : MethodName := ⟨RX6, "tell", "(II)I"⟩
abbrev cX6_countLeft : ByteArray := prog_8_method_14_code
def yX6_countLeft : MethodName := ⟨RX6, "countLeft", "()I"⟩
abbrev cX6_isSeen : ByteArray := prog_8_method_15_code
def yX6_isSeen : MethodName := ⟨RX6, "isSeen", "(III)Z"⟩
abbrev cX6_allSeen : ByteArray := prog_8_method_16_code
def yX6_allSeen : MethodName := ⟨RX6, "allSeen", "(II)I"⟩
abbrev cX6_kindsSeen : ByteArray := prog_8_method_17_code
def yX6_kindsSeen : MethodName := ⟨RX6, "kindsSeen", "(II)I"⟩
def RX7 : String := "TwigsAndStones$Trails"
def TX7 : u_T := fun k => match k with
  | 0 => ("TwigsAndStones$Trails", "net", "LTwigsAndStones$Net;", true)
  | 1 => ("TwigsAndStones$Trails", "ofGame", "LTwigsAndStones$Route;", true)
  | 2 => ("TwigsAndStones$Trails", "places", "LTwigsAndStones$Row;", true)
  | 3 => ("TwigsAndStones$Trails", "sizes", "LTwigsAndStones$Row;", true)
  | 4 => ("TwigsAndStones$Trails", "falseOnes", "LTwigsAndStones$Row;", true)
  | _ => ("TwigsAndStones$Trails", "reach", "I", false)
def tyX7 : Nat → FieldType := fun k => match k with
  | 0 => .object "TwigsAndStones$Net"
  | 1 => .object "TwigsAndStones$Route"
  | 2 => .object "TwigsAndStones$Row"
  | 3 => .object "TwigsAndStones$Row"
  | 4 => .object "TwigsAndStones$Row"
  | _ => .int
abbrev wsX70 : List Cond := u_ws RX7 TX7 6
theorem nmX7 : ∀ a, a < 6 → ∀ b, b < 6 → a ≠ b → (TX7 a).2.1 ≠ (TX7 b).2.1 := by decide +kernel
theorem tyX7_ok : ∀ k, k < 6 → parseFieldDescriptor (TX7 k).2.2.1 = some (tyX7 k) := by decide +kernel
abbrev cX7_init : ByteArray := prog_9_method_1_code
def yX7_init : MethodName := ⟨RX7, "<init>", "(LTwigsAndStones$Net;LTwigsAndStones$Route;)V"⟩
abbrev cX7_trailCount : ByteArray := prog_9_method_2_code
def yX7_trailCount : MethodName := ⟨RX7, "trailCount", "()I"⟩
abbrev cX7_sizeOf : ByteArray := prog_9_method_3_code
def yX7_sizeOf : MethodName := ⟨RX7, "sizeOf", "(I)I"⟩
abbrev cX7_changeReach : ByteArray := prog_9_method_4_code
def yX7_changeReach : MethodName := ⟨RX7, "changeReach", "(I)I"⟩
abbrev cX7_begin : ByteArray := prog_9_method_5_code
def yX7_begin : MethodName := ⟨RX7, "begin", "(IZ)I"⟩
abbrev cX7_placeAt : ByteArray := prog_9_method_6_code
def yX7_placeAt : MethodName := ⟨RX7, "placeAt", "(II)I"⟩
abbrev cX7_indexOf : ByteArray := prog_9_method_7_code
def yX7_indexOf : MethodName := ⟨RX7, "indexOf", "(II)I"⟩
abbrev cX7_mayGoOnTo : ByteArray := prog_9_method_8_code
def yX7_mayGoOnTo : MethodName := ⟨RX7, "mayGoOnTo", "(II)Z"⟩
abbrev cX7_goOnTo : ByteArray := prog_9_method_9_code
def yX7_goOnTo : MethodName := ⟨RX7, "goOnTo", "(II)I"⟩
abbrev cX7_faultsOf : ByteArray := prog_9_method_10_code
def yX7_faultsOf : MethodName := ⟨RX7, "faultsOf", "(I)I"⟩
abbrev cX7_isFalse : ByteArray := prog_9_method_11_code
def yX7_isFalse : MethodName := ⟨RX7, "isFalse", "(I)Z"⟩
abbrev cX7_comesBackToRoute : ByteArray := prog_9_method_12_code
def yX7_comesBackToRoute : MethodName := ⟨RX7, "comesBackToRoute", "(I)Z"⟩
abbrev cX7_wholeLength : ByteArray := prog_9_method_13_code
def yX7_wholeLength : MethodName := ⟨RX7, "wholeLength", "(I)I"⟩
abbrev cX7_crosses : ByteArray := prog_9_method_14_code
def yX7_crosses : MethodName := ⟨RX7, "crosses", "(II)Z"⟩
def RX8 : String := "TwigsAndStones$Walker"
def TX8 : u_T := fun k => match k with
  | 0 => ("TwigsAndStones$Walker", "net", "LTwigsAndStones$Net;", true)
  | 1 => ("TwigsAndStones$Walker", "signs", "LTwigsAndStones$Signs;", true)
  | 2 => ("TwigsAndStones$Walker", "places", "LTwigsAndStones$Row;", true)
  | 3 => ("TwigsAndStones$Walker", "ending", "I", false)
  | _ => ("TwigsAndStones$Walker", "length", "I", false)
def tyX8 : Nat → FieldType := fun k => match k with
  | 0 => .object "TwigsAndStones$Net"
  | 1 => .object "TwigsAndStones$Signs"
  | 2 => .object "TwigsAndStones$Row"
  | 3 => .int
  | _ => .int
abbrev wsX80 : List Cond := u_ws RX8 TX8 5
theorem nmX8 : ∀ a, a < 5 → ∀ b, b < 5 → a ≠ b → (TX8 a).2.1 ≠ (TX8 b).2.1 := by decide +kernel
theorem tyX8_ok : ∀ k, k < 5 → parseFieldDescriptor (TX8 k).2.2.1 = some (tyX8 k) := by decide +kernel
abbrev cX8_init : ByteArray := prog_10_method_1_code
def yX8_init : MethodName := ⟨RX8, "<init>", "(LTwigsAndStones$Net;LTwigsAndStones$Signs;)V"⟩
abbrev cX8_choice : ByteArray := prog_10_method_2_code
def yX8_choice : MethodName := ⟨RX8, "choice", "(II)I"⟩
abbrev cX8_choiceAmong : ByteArray := prog_10_method_3_code
def yX8_choiceAmong : MethodName := ⟨RX8, "choiceAmong", "(II)I"⟩
abbrev cX8_goFrom : ByteArray := prog_10_method_4_code
def yX8_goFrom : MethodName := ⟨RX8, "goFrom", "(I)V"⟩
abbrev cX8_tell : ByteArray := prog_10_method_5_code
def yX8_tell : MethodName := ⟨RX8, "tell", "(I)I"⟩
abbrev cX8_placeBehind : ByteArray := prog_10_method_6_code
def yX8_placeBehind : MethodName := ⟨RX8, "placeBehind", "(I)I"⟩
def RX9 : String := "TwigsAndStones"
def TX9 : u_T := fun k => match k with
  | 0 => ("TwigsAndStones", "net", "LTwigsAndStones$Net;", true)
  | 1 => ("TwigsAndStones", "signs", "LTwigsAndStones$Signs;", true)
  | 2 => ("TwigsAndStones", "walker", "LTwigsAndStones$Walker;", true)
  | 3 => ("TwigsAndStones", "notes", "LTwigsAndStones$Notes;", true)
  | 4 => ("TwigsAndStones", "theRoute", "LTwigsAndStones$Route;", true)
  | 5 => ("TwigsAndStones", "trails", "LTwigsAndStones$Trails;", true)
  | 6 => ("TwigsAndStones", "fork", "LTwigsAndStones$Fork;", true)
  | _ => ("TwigsAndStones", "clubs", "LTwigsAndStones$Clubs;", true)
def tyX9 : Nat → FieldType := fun k => match k with
  | 0 => .object "TwigsAndStones$Net"
  | 1 => .object "TwigsAndStones$Signs"
  | 2 => .object "TwigsAndStones$Walker"
  | 3 => .object "TwigsAndStones$Notes"
  | 4 => .object "TwigsAndStones$Route"
  | 5 => .object "TwigsAndStones$Trails"
  | 6 => .object "TwigsAndStones$Fork"
  | _ => .object "TwigsAndStones$Clubs"
abbrev wsX90 : List Cond := u_ws RX9 TX9 8
theorem nmX9 : ∀ a, a < 8 → ∀ b, b < 8 → a ≠ b → (TX9 a).2.1 ≠ (TX9 b).2.1 := by decide +kernel
theorem tyX9_ok : ∀ k, k < 8 → parseFieldDescriptor (TX9 k).2.2.1 = some (tyX9 k) := by decide +kernel
abbrev cX9_init : ByteArray := prog_1_method_1_code
def yX9_init : MethodName := ⟨RX9, "<init>", "()V"⟩
abbrev cX9_path : ByteArray := prog_1_method_2_code
def yX9_path : MethodName := ⟨RX9, "path", "(III)I"⟩
abbrev cX9_weather : ByteArray := prog_1_method_3_code
def yX9_weather : MethodName := ⟨RX9, "weather", "(I)I"⟩
abbrev cX9_days : ByteArray := prog_1_method_4_code
def yX9_days : MethodName := ⟨RX9, "days", "(I)I"⟩
abbrev cX9_sign : ByteArray := prog_1_method_5_code
def yX9_sign : MethodName := ⟨RX9, "sign", "(IIIIIZ)I"⟩
abbrev cX9_turn : ByteArray := prog_1_method_6_code
def yX9_turn : MethodName := ⟨RX9, "turn", "(II)I"⟩
abbrev cX9_at : ByteArray := prog_1_method_7_code
def yX9_at : MethodName := ⟨RX9, "at", "(II)I"⟩
abbrev cX9_set : ByteArray := prog_1_method_8_code
def yX9_set : MethodName := ⟨RX9, "set", "(II)I"⟩
abbrev cX9_seen : ByteArray := prog_1_method_9_code
def yX9_seen : MethodName := ⟨RX9, "seen", "(II)I"⟩
abbrev cX9_walk : ByteArray := prog_1_method_10_code
def yX9_walk : MethodName := ⟨RX9, "walk", "(II)I"⟩
abbrev cX9_walked : ByteArray := prog_1_method_11_code
def yX9_walked : MethodName := ⟨RX9, "walked", "(II)I"⟩
abbrev cX9_note : ByteArray := prog_1_method_12_code
def yX9_note : MethodName := ⟨RX9, "note", "(I)I"⟩
abbrev cX9_forget : ByteArray := prog_1_method_13_code
def yX9_forget : MethodName := ⟨RX9, "forget", "()I"⟩
abbrev cX9_ways : ByteArray := prog_1_method_14_code
def yX9_ways : MethodName := ⟨RX9, "ways", "(I)I"⟩
abbrev cX9_only : ByteArray := prog_1_method_15_code
def yX9_only : MethodName := ⟨RX9, "only", "(II)I"⟩
abbrev cX9_route : ByteArray := prog_1_method_16_code
def yX9_route : MethodName := ⟨RX9, "route", "(I)I"⟩
abbrev cX9_unroute : ByteArray := prog_1_method_17_code
def yX9_unroute : MethodName := ⟨RX9, "unroute", "()I"⟩
abbrev cX9_needed : ByteArray := prog_1_method_18_code
def yX9_needed : MethodName := ⟨RX9, "needed", "(I)I"⟩
abbrev cX9_trail : ByteArray := prog_1_method_19_code
def yX9_trail : MethodName := ⟨RX9, "trail", "(IZ)I"⟩
abbrev cX9_add : ByteArray := prog_1_method_20_code
def yX9_add : MethodName := ⟨RX9, "add", "(II)I"⟩
abbrev cX9_breaks : ByteArray := prog_1_method_21_code
def yX9_breaks : MethodName := ⟨RX9, "breaks", "(I)I"⟩
abbrev cX9_branch : ByteArray := prog_1_method_22_code
def yX9_branch : MethodName := ⟨RX9, "branch", "(I)I"⟩
abbrev cX9_unbranch : ByteArray := prog_1_method_23_code
def yX9_unbranch : MethodName := ⟨RX9, "unbranch", "()I"⟩
abbrev cX9_worst : ByteArray := prog_1_method_24_code
def yX9_worst : MethodName := ⟨RX9, "worst", "(I)I"⟩
abbrev cX9_split : ByteArray := prog_1_method_25_code
def yX9_split : MethodName := ⟨RX9, "split", "(III)I"⟩
abbrev cX9_club : ByteArray := prog_1_method_26_code
def yX9_club : MethodName := ⟨RX9, "club", "(II)I"⟩
abbrev cX9_colour : ByteArray := prog_1_method_27_code
def yX9_colour : MethodName := ⟨RX9, "colour", "(III)I"⟩
abbrev cX9_whose : ByteArray := prog_1_method_28_code
def yX9_whose : MethodName := ⟨RX9, "whose", "(IIII)I"⟩
abbrev cX9_count : ByteArray := prog_1_method_29_code
def yX9_count : MethodName := ⟨RX9, "count", "(I)I"⟩
abbrev cX9_isWithin : ByteArray := prog_1_method_30_code
def yX9_isWithin : MethodName := ⟨RX9, "isWithin", "(III)Z"⟩
abbrev cX9_isPlace : ByteArray := prog_1_method_31_code
def yX9_isPlace : MethodName := ⟨RX9, "isPlace", "(I)Z"⟩
abbrev cX9_isClub : ByteArray := prog_1_method_32_code
def yX9_isClub : MethodName := ⟨RX9, "isClub", "(I)Z"⟩
abbrev cX9_isColour : ByteArray := prog_1_method_33_code
def yX9_isColour : MethodName := ⟨RX9, "isColour", "(I)Z"⟩
abbrev cX9_isOfPath : ByteArray := prog_1_method_34_code
def yX9_isOfPath : MethodName := ⟨RX9, "isOfPath", "(I)Z"⟩
abbrev cX9_isSignValue : ByteArray := prog_1_method_35_code
def yX9_isSignValue : MethodName := ⟨RX9, "isSignValue", "(II)Z"⟩
abbrev cX9_bitOf : ByteArray := prog_1_method_36_code
def yX9_bitOf : MethodName := ⟨RX9, "bitOf", "(I)I"⟩
def RX10 : String := "TwigsAndStonesModel"
def TX10 : u_T := fun k => match k with
  | 0 => ("TwigsAndStonesModel", "paths", "I", false)
  | 1 => ("TwigsAndStonesModel", "endA", "[I", true)
  | 2 => ("TwigsAndStonesModel", "endB", "[I", true)
  | 3 => ("TwigsAndStonesModel", "lengthOf", "[I", true)
  | 4 => ("TwigsAndStonesModel", "day", "I", false)
  | 5 => ("TwigsAndStonesModel", "weather", "I", false)
  | 6 => ("TwigsAndStonesModel", "signs", "I", false)
  | 7 => ("TwigsAndStonesModel", "place", "[I", true)
  | 8 => ("TwigsAndStonesModel", "kind", "[I", true)
  | 9 => ("TwigsAndStonesModel", "value", "[I", true)
  | 10 => ("TwigsAndStonesModel", "life", "[I", true)
  | 11 => ("TwigsAndStonesModel", "laid", "[I", true)
  | 12 => ("TwigsAndStonesModel", "by", "[I", true)
  | 13 => ("TwigsAndStonesModel", "atStart", "[Z", true)
  | 14 => ("TwigsAndStonesModel", "isTurned", "[Z", true)
  | 15 => ("TwigsAndStonesModel", "fog", "I", false)
  | 16 => ("TwigsAndStonesModel", "leeway", "I", false)
  | 17 => ("TwigsAndStonesModel", "reach", "I", false)
  | 18 => ("TwigsAndStonesModel", "walkEnds", "I", false)
  | 19 => ("TwigsAndStonesModel", "walkPaths", "I", false)
  | 20 => ("TwigsAndStonesModel", "walkLength", "I", false)
  | 21 => ("TwigsAndStonesModel", "walkAt", "[I", true)
  | 22 => ("TwigsAndStonesModel", "came", "[Z", true)
  | 23 => ("TwigsAndStonesModel", "notes", "I", false)
  | 24 => ("TwigsAndStonesModel", "note", "[I", true)
  | 25 => ("TwigsAndStonesModel", "goesOn", "[I", true)
  | 26 => ("TwigsAndStonesModel", "routes", "I", false)
  | 27 => ("TwigsAndStonesModel", "route", "[I", true)
  | 28 => ("TwigsAndStonesModel", "trails", "I", false)
  | 29 => ("TwigsAndStonesModel", "trailMany", "[I", true)
  | 30 => ("TwigsAndStonesModel", "trail", "[I", true)
  | 31 => ("TwigsAndStonesModel", "isFalse", "[Z", true)
  | 32 => ("TwigsAndStonesModel", "branches", "I", false)
  | 33 => ("TwigsAndStonesModel", "branch", "[I", true)
  | 34 => ("TwigsAndStonesModel", "bestWorst", "I", false)
  | 35 => ("TwigsAndStonesModel", "bestHound", "[I", true)
  | 36 => ("TwigsAndStonesModel", "clubPaths", "[I", true)
  | 37 => ("TwigsAndStonesModel", "colours", "I", false)
  | 38 => ("TwigsAndStonesModel", "colourClub", "[I", true)
  | 39 => ("TwigsAndStonesModel", "colourOf", "[I", true)
  | _ => ("TwigsAndStonesModel", "colourDay", "[I", true)
def tyX10 : Nat → FieldType := fun k => match k with
  | 0 => .int
  | 1 => .array .int
  | 2 => .array .int
  | 3 => .array .int
  | 4 => .int
  | 5 => .int
  | 6 => .int
  | 7 => .array .int
  | 8 => .array .int
  | 9 => .array .int
  | 10 => .array .int
  | 11 => .array .int
  | 12 => .array .int
  | 13 => .array .boolean
  | 14 => .array .boolean
  | 15 => .int
  | 16 => .int
  | 17 => .int
  | 18 => .int
  | 19 => .int
  | 20 => .int
  | 21 => .array .int
  | 22 => .array .boolean
  | 23 => .int
  | 24 => .array .int
  | 25 => .array .int
  | 26 => .int
  | 27 => .array .int
  | 28 => .int
  | 29 => .array .int
  | 30 => .array .int
  | 31 => .array .boolean
  | 32 => .int
  | 33 => .array .int
  | 34 => .int
  | 35 => .array .int
  | 36 => .array .int
  | 37 => .int
  | 38 => .array .int
  | 39 => .array .int
  | _ => .array .int
abbrev wsX100 : List Cond := u_ws RX10 TX10 41
theorem nmX10 : ∀ a, a < 41 → ∀ b, b < 41 → a ≠ b → (TX10 a).2.1 ≠ (TX10 b).2.1 := by decide +kernel
theorem tyX10_ok : ∀ k, k < 41 → parseFieldDescriptor (TX10 k).2.2.1 = some (tyX10 k) := by decide +kernel
abbrev cX10_init : ByteArray := prog_12_method_1_code
def yX10_init : MethodName := ⟨RX10, "<init>", "()V"⟩
abbrev cX10_in : ByteArray := prog_12_method_2_code
def yX10_in : MethodName := ⟨RX10, "in", "(III)Z"⟩
abbrev cX10_isPlace : ByteArray := prog_12_method_3_code
def yX10_isPlace : MethodName := ⟨RX10, "isPlace", "(I)Z"⟩
abbrev cX10_isAt : ByteArray := prog_12_method_4_code
def yX10_isAt : MethodName := ⟨RX10, "isAt", "(II)Z"⟩
abbrev cX10_otherEnd : ByteArray := prog_12_method_5_code
def yX10_otherEnd : MethodName := ⟨RX10, "otherEnd", "(II)I"⟩
abbrev cX10_joins : ByteArray := prog_12_method_6_code
def yX10_joins : MethodName := ⟨RX10, "joins", "(II)I"⟩
abbrev cX10_pathsAt : ByteArray := prog_12_method_7_code
def yX10_pathsAt : MethodName := ⟨RX10, "pathsAt", "(I)I"⟩
abbrev cX10_path : ByteArray := prog_12_method_8_code
def yX10_path : MethodName := ⟨RX10, "path", "(III)I"⟩
abbrev cX10_weather : ByteArray := prog_12_method_9_code
def yX10_weather : MethodName := ⟨RX10, "weather", "(I)I"⟩
abbrev cX10_days : ByteArray := prog_12_method_10_code
def yX10_days : MethodName := ⟨RX10, "days", "(I)I"⟩
abbrev cX10_sign : ByteArray := prog_12_method_11_code
def yX10_sign : MethodName := ⟨RX10, "sign", "(IIIIIZ)I"⟩
abbrev cX10_turn : ByteArray := prog_12_method_12_code
def yX10_turn : MethodName := ⟨RX10, "turn", "(II)I"⟩
abbrev cX10_at : ByteArray := prog_12_method_13_code
def yX10_at : MethodName := ⟨RX10, "at", "(II)I"⟩
abbrev cX10_set : ByteArray := prog_12_method_14_code
def yX10_set : MethodName := ⟨RX10, "set", "(II)I"⟩
abbrev cX10_seenBy : ByteArray := prog_12_method_15_code
def yX10_seenBy : MethodName := ⟨RX10, "seenBy", "(II)I"⟩
abbrev cX10_seen : ByteArray := prog_12_method_16_code
def yX10_seen : MethodName := ⟨RX10, "seen", "(II)I"⟩
abbrev cX10_goesBy : ByteArray := prog_12_method_17_code
def yX10_goesBy : MethodName := ⟨RX10, "goesBy", "(II)I"⟩
abbrev cX10_goWalk : ByteArray := prog_12_method_18_code
def yX10_goWalk : MethodName := ⟨RX10, "goWalk", "(I)V"⟩
abbrev cX10_walk : ByteArray := prog_12_method_19_code
def yX10_walk : MethodName := ⟨RX10, "walk", "(II)I"⟩
abbrev cX10_walked : ByteArray := prog_12_method_20_code
def yX10_walked : MethodName := ⟨RX10, "walked", "(II)I"⟩
abbrev cX10_note : ByteArray := prog_12_method_21_code
def yX10_note : MethodName := ⟨RX10, "note", "(I)I"⟩
abbrev cX10_forget : ByteArray := prog_12_method_22_code
def yX10_forget : MethodName := ⟨RX10, "forget", "()I"⟩
abbrev cX10_isNoted : ByteArray := prog_12_method_23_code
def yX10_isNoted : MethodName := ⟨RX10, "isNoted", "(III)Z"⟩
abbrev cX10_mayGo : ByteArray := prog_12_method_24_code
def yX10_mayGo : MethodName := ⟨RX10, "mayGo", "(III)Z"⟩
abbrev cX10_findWays : ByteArray := prog_12_method_25_code
def yX10_findWays : MethodName := ⟨RX10, "findWays", "()V"⟩
abbrev cX10_ways : ByteArray := prog_12_method_26_code
def yX10_ways : MethodName := ⟨RX10, "ways", "(I)I"⟩
abbrev cX10_only : ByteArray := prog_12_method_27_code
def yX10_only : MethodName := ⟨RX10, "only", "(II)I"⟩
abbrev cX10_route : ByteArray := prog_12_method_28_code
def yX10_route : MethodName := ⟨RX10, "route", "(I)I"⟩
abbrev cX10_unroute : ByteArray := prog_12_method_29_code
def yX10_unroute : MethodName := ⟨RX10, "unroute", "()I"⟩
abbrev cX10_isHarmless : ByteArray := prog_12_method_30_code
def yX10_isHarmless : MethodName := ⟨RX10, "isHarmless", "(II)Z"⟩
abbrev cX10_isNeeded : ByteArray := prog_12_method_31_code
def yX10_isNeeded : MethodName := ⟨RX10, "isNeeded", "(III)Z"⟩
abbrev cX10_needed : ByteArray := prog_12_method_32_code
def yX10_needed : MethodName := ⟨RX10, "needed", "(I)I"⟩
abbrev cX10_trail : ByteArray := prog_12_method_33_code
def yX10_trail : MethodName := ⟨RX10, "trail", "(IZ)I"⟩
abbrev cX10_add : ByteArray := prog_12_method_34_code
def yX10_add : MethodName := ⟨RX10, "add", "(II)I"⟩
abbrev cX10_isOnRoute : ByteArray := prog_12_method_35_code
def yX10_isOnRoute : MethodName := ⟨RX10, "isOnRoute", "(I)Z"⟩
abbrev cX10_doCross : ByteArray := prog_12_method_36_code
def yX10_doCross : MethodName := ⟨RX10, "doCross", "(II)Z"⟩
abbrev cX10_breaks : ByteArray := prog_12_method_37_code
def yX10_breaks : MethodName := ⟨RX10, "breaks", "(I)I"⟩
abbrev cX10_branch : ByteArray := prog_12_method_38_code
def yX10_branch : MethodName := ⟨RX10, "branch", "(I)I"⟩
abbrev cX10_unbranch : ByteArray := prog_12_method_39_code
def yX10_unbranch : MethodName := ⟨RX10, "unbranch", "()I"⟩
abbrev cX10_houndOf : ByteArray := prog_12_method_40_code
def yX10_houndOf : MethodName := ⟨RX10, "houndOf", "(III)I"⟩
abbrev cX10_foundAt : ByteArray := prog_12_method_41_code
def yX10_foundAt : MethodName := ⟨RX10, "foundAt", "(III)I"⟩
abbrev cX10_findSplit : ByteArray := prog_12_method_42_code
def yX10_findSplit : MethodName := ⟨RX10, "findSplit", "(I)I"⟩
abbrev cX10_worst : ByteArray := prog_12_method_43_code
def yX10_worst : MethodName := ⟨RX10, "worst", "(I)I"⟩
abbrev cX10_split : ByteArray := prog_12_method_44_code
def yX10_split : MethodName := ⟨RX10, "split", "(III)I"⟩
abbrev cX10_club : ByteArray := prog_12_method_45_code
def yX10_club : MethodName := ⟨RX10, "club", "(II)I"⟩
abbrev cX10_colour : ByteArray := prog_12_method_46_code
def yX10_colour : MethodName := ⟨RX10, "colour", "(III)I"⟩
abbrev cX10_colourTo : ByteArray := prog_12_method_47_code
def yX10_colourTo : MethodName := ⟨RX10, "colourTo", "(III)I"⟩
abbrev cX10_whose : ByteArray := prog_12_method_48_code
def yX10_whose : MethodName := ⟨RX10, "whose", "(IIII)I"⟩
abbrev cX10_count : ByteArray := prog_12_method_49_code
def yX10_count : MethodName := ⟨RX10, "count", "(I)I"⟩
def RJ6 : String := "java/lang/Integer"
def TJ6 : u_T := fun k => match k with
  | _ => ("", "", "", false)
def tyJ6 : Nat → FieldType := fun k => match k with
  | _ => .int
abbrev wsJ60 : List Cond := u_ws RJ6 TJ6 0
theorem nmJ6 : ∀ a, a < 0 → ∀ b, b < 0 → a ≠ b → (TJ6 a).2.1 ≠ (TJ6 b).2.1 := by decide +kernel
theorem tyJ6_ok : ∀ k, k < 0 → parseFieldDescriptor (TJ6 k).2.2.1 = some (tyJ6 k) := by decide +kernel
abbrev cJ6_bitCount_0f7a4 : ByteArray := prog_13_method_49_code
def yJ6_bitCount_0f7a4 : MethodName := ⟨RJ6, "bitCount", "(I)I"⟩
def RJ9 : String := "java/lang/Math"
def TJ9 : u_T := fun k => match k with
  | _ => ("", "", "", false)
def tyJ9 : Nat → FieldType := fun k => match k with
  | _ => .int
abbrev wsJ90 : List Cond := u_ws RJ9 TJ9 0
theorem nmJ9 : ∀ a, a < 0 → ∀ b, b < 0 → a ≠ b → (TJ9 a).2.1 ≠ (TJ9 b).2.1 := by decide +kernel
theorem tyJ9_ok : ∀ k, k < 0 → parseFieldDescriptor (TJ9 k).2.2.1 = some (tyJ9 k) := by decide +kernel
abbrev cJ9_max_7cf53 : ByteArray := prog_14_method_65_code
def yJ9_max_7cf53 : MethodName := ⟨RJ9, "max", "(II)I"⟩
def RL : String := "TwigsAndStonesLaw"
abbrev cL_law : ByteArray := code
def yL_law : MethodName := ⟨RL, "law", "([I)Z"⟩
def wsL_law_r1 : List Cond := [Cond.classLink RL 7 RX9, Cond.instantiable RX9 8, Cond.initialized RX9, Cond.classLink RL 10 RX10, Cond.instantiable RX10 41, Cond.initialized RX10, Cond.methodLink RL 9 yX9_init, Cond.instanceMethod yX9_init, Cond.code yX9_init cX9_init 1 none, Cond.methodLink RX9 1 objectInit, Cond.instanceMethod objectInit, Cond.code objectInit ⟨#[0xb1]⟩ 1 none, Cond.classLink RX9 7 RX2, Cond.instantiable RX2 4, Cond.initialized RX2, Cond.fieldLink RX9 10 "TwigsAndStones" "net" "LTwigsAndStones$Net;", Cond.classLink RX9 16 RX6, Cond.instantiable RX6 11, Cond.initialized RX6, Cond.fieldLink RX9 21 "TwigsAndStones" "signs" "LTwigsAndStones$Signs;", Cond.classLink RX9 25 RX8, Cond.instantiable RX8 5, Cond.initialized RX8, Cond.fieldLink RX9 30 "TwigsAndStones" "walker" "LTwigsAndStones$Walker;"]
def wsL_law_r2 : List Cond := [Cond.classLink RX9 34 RX3, Cond.instantiable RX3 4, Cond.initialized RX3, Cond.fieldLink RX9 37 "TwigsAndStones" "notes" "LTwigsAndStones$Notes;", Cond.classLink RX9 41 RX4, Cond.instantiable RX4 4, Cond.initialized RX4, Cond.fieldLink RX9 46 "TwigsAndStones" "theRoute" "LTwigsAndStones$Route;", Cond.classLink RX9 50 RX7, Cond.instantiable RX7 6, Cond.initialized RX7, Cond.fieldLink RX9 55 "TwigsAndStones" "trails" "LTwigsAndStones$Trails;", Cond.classLink RX9 59 RX1, Cond.instantiable RX1 3, Cond.initialized RX1, Cond.fieldLink RX9 62 "TwigsAndStones" "fork" "LTwigsAndStones$Fork;", Cond.classLink RX9 66 RX0, Cond.instantiable RX0 4, Cond.initialized RX0, Cond.fieldLink RX9 69 "TwigsAndStones" "clubs" "LTwigsAndStones$Clubs;", Cond.instanceMethod yX2_init, Cond.code yX2_init cX2_init 1 none, Cond.methodLink RX2 3 objectInit, Cond.classLink RX2 9 RX5]
def wsL_law_r3 : List Cond := [Cond.instantiable RX5 2, Cond.initialized RX5, Cond.fieldLink RX2 14 "TwigsAndStones$Net" "firsts" "LTwigsAndStones$Row;", Cond.fieldLink RX2 20 "TwigsAndStones$Net" "seconds" "LTwigsAndStones$Row;", Cond.fieldLink RX2 23 "TwigsAndStones$Net" "lengths" "LTwigsAndStones$Row;", Cond.fieldLink RX2 30 "TwigsAndStones$Net" "pathsByPlace" "LTwigsAndStones$Row;", Cond.methodLink RX2 11 yX5_init, Cond.instanceMethod yX5_init, Cond.code yX5_init cX5_init 2 none, Cond.methodLink RX5 3 objectInit, Cond.arrayClass .int, Cond.fieldLink RX5 9 "TwigsAndStones$Row" "cells" "[I", Cond.methodLink RX2 26 yX5_filled, Cond.instanceMethod yX5_filled, Cond.selects RX5 yX5_filled yX5_filled, Cond.code yX5_filled cX5_filled 1 (some (.object "TwigsAndStones$Row")), Cond.fieldLink RX5 15 "TwigsAndStones$Row" "size" "I", Cond.methodLink RX9 18 yX6_init, Cond.instanceMethod yX6_init, Cond.code yX6_init cX6_init 2 none, Cond.methodLink RX6 3 objectInit, Cond.classLink RX6 9 RX5, Cond.fieldLink RX6 16 "TwigsAndStones$Signs" "places" "LTwigsAndStones$Row;", Cond.fieldLink RX6 20 "TwigsAndStones$Signs" "kinds" "LTwigsAndStones$Row;"]
def wsL_law_r4 : List Cond := [Cond.fieldLink RX6 23 "TwigsAndStones$Signs" "values" "LTwigsAndStones$Row;", Cond.fieldLink RX6 26 "TwigsAndStones$Signs" "lives" "LTwigsAndStones$Row;", Cond.fieldLink RX6 29 "TwigsAndStones$Signs" "laidOn" "LTwigsAndStones$Row;", Cond.fieldLink RX6 32 "TwigsAndStones$Signs" "turned" "LTwigsAndStones$Row;", Cond.fieldLink RX6 35 "TwigsAndStones$Signs" "seenBy" "LTwigsAndStones$Row;", Cond.fieldLink RX6 38 "TwigsAndStones$Signs" "day" "I", Cond.fieldLink RX6 42 "TwigsAndStones$Signs" "weatherNow" "I", Cond.fieldLink RX6 45 "TwigsAndStones$Signs" "fog" "I", Cond.fieldLink RX6 48 "TwigsAndStones$Signs" "net" "LTwigsAndStones$Net;", Cond.methodLink RX6 13 yX5_init, Cond.methodLink RX9 27 yX8_init, Cond.instanceMethod yX8_init, Cond.code yX8_init cX8_init 3 none, Cond.methodLink RX8 3 objectInit, Cond.classLink RX8 9 RX5, Cond.fieldLink RX8 16 "TwigsAndStones$Walker" "places" "LTwigsAndStones$Row;", Cond.fieldLink RX8 20 "TwigsAndStones$Walker" "ending" "I", Cond.fieldLink RX8 24 "TwigsAndStones$Walker" "length" "I", Cond.fieldLink RX8 27 "TwigsAndStones$Walker" "net" "LTwigsAndStones$Net;", Cond.fieldLink RX8 31 "TwigsAndStones$Walker" "signs" "LTwigsAndStones$Signs;", Cond.methodLink RX8 13 yX5_init, Cond.methodLink RX9 36 yX3_init, Cond.instanceMethod yX3_init, Cond.code yX3_init cX3_init 3 none]
def wsL_law_r5 : List Cond := [Cond.methodLink RX3 3 objectInit, Cond.classLink RX3 9 RX5, Cond.fieldLink RX3 16 "TwigsAndStones$Notes" "noted" "LTwigsAndStones$Row;", Cond.fieldLink RX3 26 "TwigsAndStones$Notes" "waysByArc" "LTwigsAndStones$Row;", Cond.fieldLink RX3 29 "TwigsAndStones$Notes" "net" "LTwigsAndStones$Net;", Cond.fieldLink RX3 33 "TwigsAndStones$Notes" "signs" "LTwigsAndStones$Signs;", Cond.methodLink RX3 13 yX5_init, Cond.methodLink RX3 22 yX5_filled, Cond.methodLink RX9 43 yX4_init, Cond.instanceMethod yX4_init, Cond.code yX4_init cX4_init 3 none, Cond.methodLink RX4 3 objectInit, Cond.classLink RX4 9 RX5, Cond.fieldLink RX4 16 "TwigsAndStones$Route" "places" "LTwigsAndStones$Row;", Cond.fieldLink RX4 20 "TwigsAndStones$Route" "leeway" "I", Cond.fieldLink RX4 24 "TwigsAndStones$Route" "net" "LTwigsAndStones$Net;", Cond.fieldLink RX4 28 "TwigsAndStones$Route" "walker" "LTwigsAndStones$Walker;", Cond.methodLink RX4 13 yX5_init, Cond.methodLink RX9 52 yX7_init, Cond.instanceMethod yX7_init, Cond.code yX7_init cX7_init 3 none, Cond.methodLink RX7 3 objectInit, Cond.classLink RX7 9 RX5, Cond.fieldLink RX7 20 "TwigsAndStones$Trails" "places" "LTwigsAndStones$Row;"]
def wsL_law_r6 : List Cond := [Cond.fieldLink RX7 24 "TwigsAndStones$Trails" "sizes" "LTwigsAndStones$Row;", Cond.fieldLink RX7 27 "TwigsAndStones$Trails" "falseOnes" "LTwigsAndStones$Row;", Cond.fieldLink RX7 30 "TwigsAndStones$Trails" "reach" "I", Cond.fieldLink RX7 34 "TwigsAndStones$Trails" "net" "LTwigsAndStones$Net;", Cond.fieldLink RX7 38 "TwigsAndStones$Trails" "ofGame" "LTwigsAndStones$Route;", Cond.methodLink RX7 13 yX5_init, Cond.methodLink RX7 16 yX5_filled, Cond.instanceMethod yX1_init, Cond.code yX1_init cX1_init 1 none, Cond.methodLink RX1 1 objectInit, Cond.classLink RX1 7 RX5, Cond.fieldLink RX1 14 "TwigsAndStones$Fork" "lengths" "LTwigsAndStones$Row;", Cond.fieldLink RX1 22 "TwigsAndStones$Fork" "tried" "LTwigsAndStones$Row;", Cond.fieldLink RX1 25 "TwigsAndStones$Fork" "best" "LTwigsAndStones$Row;", Cond.methodLink RX1 11 yX5_init, Cond.methodLink RX1 18 yX5_filled, Cond.instanceMethod yX0_init, Cond.code yX0_init cX0_init 1 none, Cond.methodLink RX0 3 objectInit, Cond.classLink RX0 9 RX5, Cond.fieldLink RX0 20 "TwigsAndStones$Clubs" "pathsByClub" "LTwigsAndStones$Row;", Cond.fieldLink RX0 24 "TwigsAndStones$Clubs" "toldClubs" "LTwigsAndStones$Row;", Cond.fieldLink RX0 27 "TwigsAndStones$Clubs" "toldHues" "LTwigsAndStones$Row;", Cond.fieldLink RX0 30 "TwigsAndStones$Clubs" "toldDays" "LTwigsAndStones$Row;"]
def wsL_law_r7 : List Cond := [Cond.methodLink RX0 13 yX5_init, Cond.methodLink RX0 16 yX5_filled, Cond.methodLink RL 12 yX10_init, Cond.instanceMethod yX10_init, Cond.code yX10_init cX10_init 1 none, Cond.methodLink RX10 1 objectInit, Cond.fieldLink RX10 7 "TwigsAndStonesModel" "endA" "[I", Cond.fieldLink RX10 13 "TwigsAndStonesModel" "endB" "[I", Cond.fieldLink RX10 16 "TwigsAndStonesModel" "lengthOf" "[I", Cond.fieldLink RX10 19 "TwigsAndStonesModel" "place" "[I", Cond.fieldLink RX10 22 "TwigsAndStonesModel" "kind" "[I", Cond.fieldLink RX10 25 "TwigsAndStonesModel" "value" "[I", Cond.fieldLink RX10 28 "TwigsAndStonesModel" "life" "[I", Cond.fieldLink RX10 31 "TwigsAndStonesModel" "laid" "[I", Cond.fieldLink RX10 34 "TwigsAndStonesModel" "by" "[I", Cond.arrayClass .boolean, Cond.fieldLink RX10 37 "TwigsAndStonesModel" "atStart" "[Z", Cond.fieldLink RX10 41 "TwigsAndStonesModel" "isTurned" "[Z", Cond.fieldLink RX10 44 "TwigsAndStonesModel" "reach" "I", Cond.fieldLink RX10 48 "TwigsAndStonesModel" "walkAt" "[I", Cond.fieldLink RX10 51 "TwigsAndStonesModel" "came" "[Z", Cond.fieldLink RX10 54 "TwigsAndStonesModel" "note" "[I", Cond.fieldLink RX10 57 "TwigsAndStonesModel" "goesOn" "[I", Cond.fieldLink RX10 60 "TwigsAndStonesModel" "route" "[I"]
def wsL_law_r8 : List Cond := [Cond.fieldLink RX10 63 "TwigsAndStonesModel" "trailMany" "[I", Cond.fieldLink RX10 66 "TwigsAndStonesModel" "trail" "[I", Cond.fieldLink RX10 69 "TwigsAndStonesModel" "isFalse" "[Z", Cond.fieldLink RX10 72 "TwigsAndStonesModel" "branch" "[I", Cond.fieldLink RX10 75 "TwigsAndStonesModel" "bestHound" "[I", Cond.fieldLink RX10 78 "TwigsAndStonesModel" "clubPaths" "[I", Cond.fieldLink RX10 81 "TwigsAndStonesModel" "colourClub" "[I", Cond.fieldLink RX10 84 "TwigsAndStonesModel" "colourOf" "[I", Cond.fieldLink RX10 87 "TwigsAndStonesModel" "colourDay" "[I", Cond.methodLink RL 13 yX9_path, Cond.instanceMethod yX9_path, Cond.selects RX9 yX9_path yX9_path, Cond.code yX9_path cX9_path 4 (some .int), Cond.methodLink RX9 73 yX9_isPlace, Cond.static yX9_isPlace, Cond.code yX9_isPlace cX9_isPlace 1 (some .boolean), Cond.methodLink RX9 77 yX9_isWithin, Cond.static yX9_isWithin, Cond.code yX9_isWithin cX9_isWithin 3 (some .boolean), Cond.methodLink RX9 81 yX2_joining, Cond.instanceMethod yX2_joining, Cond.selects RX2 yX2_joining yX2_joining, Cond.code yX2_joining cX2_joining 4 (some .int), Cond.methodLink RX2 44 yX2_pathsAt]
def wsL_law_r9 : List Cond := [Cond.instanceMethod yX2_pathsAt, Cond.selects RX2 yX2_pathsAt yX2_pathsAt, Cond.code yX2_pathsAt cX2_pathsAt 2 (some .int), Cond.methodLink RX2 58 yX5_get, Cond.instanceMethod yX5_get, Cond.selects RX5 yX5_get yX5_get, Cond.code yX5_get cX5_get 2 (some .int), Cond.methodLink RX2 61 yJ6_bitCount_0f7a4, Cond.static yJ6_bitCount_0f7a4, Cond.initialized RJ6, Cond.code yJ6_bitCount_0f7a4 cJ6_bitCount_0f7a4 1 (some .int), Cond.constant RJ6 265 (1431655765), Cond.constant RJ6 266 (858993459), Cond.constant RJ6 267 (252645135), Cond.methodLink RX9 85 yX2_pathCount, Cond.instanceMethod yX2_pathCount, Cond.selects RX2 yX2_pathCount yX2_pathCount, Cond.code yX2_pathCount cX2_pathCount 1 (some .int), Cond.methodLink RX2 33 yX5_size, Cond.instanceMethod yX5_size, Cond.selects RX5 yX5_size yX5_size, Cond.code yX5_size cX5_size 1 (some .int), Cond.methodLink RX9 89 yX2_join, Cond.instanceMethod yX2_join]
def wsL_law_r10 : List Cond := [Cond.selects RX2 yX2_join yX2_join, Cond.code yX2_join cX2_join 5 (some .int), Cond.methodLink RX2 37 yX2_pathCount, Cond.methodLink RX2 40 yX5_push, Cond.instanceMethod yX5_push, Cond.selects RX5 yX5_push yX5_push, Cond.code yX5_push cX5_push 2 (some .int), Cond.static yX9_bitOf, Cond.code yX9_bitOf cX9_bitOf 1 (some .int), Cond.methodLink RX2 50 yX5_put, Cond.instanceMethod yX5_put, Cond.selects RX5 yX5_put yX5_put, Cond.code yX5_put cX5_put 3 none, Cond.methodLink RL 17 yX10_path, Cond.instanceMethod yX10_path, Cond.selects RX10 yX10_path yX10_path, Cond.code yX10_path cX10_path 4 (some .int), Cond.fieldLink RX10 94 "TwigsAndStonesModel" "paths" "I", Cond.methodLink RX10 101 yX10_isPlace, Cond.static yX10_isPlace, Cond.code yX10_isPlace cX10_isPlace 1 (some .boolean), Cond.methodLink RX10 90 yX10_in, Cond.static yX10_in, Cond.code yX10_in cX10_in 3 (some .boolean)]
def wsL_law_r11 : List Cond := [Cond.methodLink RX10 105 yX10_joins, Cond.instanceMethod yX10_joins, Cond.selects RX10 yX10_joins yX10_joins, Cond.code yX10_joins cX10_joins 5 (some .int), Cond.methodLink RX10 97 yX10_isAt, Cond.instanceMethod yX10_isAt, Cond.selects RX10 yX10_isAt yX10_isAt, Cond.code yX10_isAt cX10_isAt 3 (some .boolean), Cond.methodLink RL 18 yX9_weather, Cond.instanceMethod yX9_weather, Cond.selects RX9 yX9_weather yX9_weather, Cond.code yX9_weather cX9_weather 2 (some .int), Cond.methodLink RX9 93 yX6_changeWeather, Cond.instanceMethod yX6_changeWeather, Cond.selects RX6 yX6_changeWeather yX6_changeWeather, Cond.code yX6_changeWeather cX6_changeWeather 3 (some .int), Cond.methodLink RL 22 yX10_weather, Cond.instanceMethod yX10_weather, Cond.selects RX10 yX10_weather yX10_weather, Cond.code yX10_weather cX10_weather 3 (some .int), Cond.fieldLink RX10 109 "TwigsAndStonesModel" "weather" "I", Cond.methodLink RL 23 yX9_days, Cond.instanceMethod yX9_days, Cond.selects RX9 yX9_days yX9_days]
def wsL_law_r12 : List Cond := [Cond.code yX9_days cX9_days 2 (some .int), Cond.methodLink RX9 97 yX6_today, Cond.instanceMethod yX6_today, Cond.selects RX6 yX6_today yX6_today, Cond.code yX6_today cX6_today 1 (some .int), Cond.methodLink RX9 100 yX6_letDaysGoBy, Cond.instanceMethod yX6_letDaysGoBy, Cond.selects RX6 yX6_letDaysGoBy yX6_letDaysGoBy, Cond.code yX6_letDaysGoBy cX6_letDaysGoBy 4 (some .int), Cond.methodLink RX6 66 Lib.Math.max.name, Cond.static Lib.Math.max.name, Cond.initialized "java/lang/Math", Cond.code Lib.Math.max.name Lib.Math.max.code 2 (some .int), Cond.methodLink RX6 56 yX6_signCount, Cond.instanceMethod yX6_signCount, Cond.selects RX6 yX6_signCount yX6_signCount, Cond.code yX6_signCount cX6_signCount 1 (some .int), Cond.methodLink RX6 52 yX5_size, Cond.methodLink RX6 59 yX6_kindOf, Cond.instanceMethod yX6_kindOf, Cond.selects RX6 yX6_kindOf yX6_kindOf, Cond.code yX6_kindOf cX6_kindOf 2 (some .int), Cond.methodLink RX6 63 yX5_get, Cond.methodLink RX6 72 yX5_put]
def wsL_law_r13 : List Cond := [Cond.methodLink RL 26 yX10_days, Cond.instanceMethod yX10_days, Cond.selects RX10 yX10_days yX10_days, Cond.code yX10_days cX10_days 4 (some .int), Cond.fieldLink RX10 112 "TwigsAndStonesModel" "day" "I", Cond.fieldLink RX10 115 "TwigsAndStonesModel" "signs" "I", Cond.methodLink RL 27 yX9_sign, Cond.instanceMethod yX9_sign, Cond.selects RX9 yX9_sign yX9_sign, Cond.code yX9_sign cX9_sign 7 (some .int), Cond.methodLink RX9 103 yX9_isOfPath, Cond.static yX9_isOfPath, Cond.code yX9_isOfPath cX9_isOfPath 1 (some .boolean), Cond.methodLink RX9 106 yX2_touches, Cond.instanceMethod yX2_touches, Cond.selects RX2 yX2_touches yX2_touches, Cond.code yX2_touches cX2_touches 3 (some .boolean), Cond.methodLink RX9 110 yX9_isSignValue, Cond.static yX9_isSignValue, Cond.code yX9_isSignValue cX9_isSignValue 2 (some .boolean), Cond.methodLink RX9 232 yX9_isColour, Cond.static yX9_isColour, Cond.code yX9_isColour cX9_isColour 1 (some .boolean), Cond.methodLink RX9 113 yX2_pathsAt]
def wsL_law_r14 : List Cond := [Cond.methodLink RX9 116 yX6_signCount, Cond.methodLink RX9 119 yX6_lay, Cond.instanceMethod yX6_lay, Cond.selects RX6 yX6_lay yX6_lay, Cond.code yX6_lay cX6_lay 8 (some .int), Cond.constant RX6 79 (65536), Cond.methodLink RX6 76 yX5_push, Cond.methodLink RL 31 yX10_sign, Cond.instanceMethod yX10_sign, Cond.selects RX10 yX10_sign yX10_sign, Cond.code yX10_sign cX10_sign 7 (some .int), Cond.methodLink RX10 118 yX10_pathsAt, Cond.instanceMethod yX10_pathsAt, Cond.selects RX10 yX10_pathsAt yX10_pathsAt, Cond.code yX10_pathsAt cX10_pathsAt 4 (some .int), Cond.methodLink RL 32 yX9_turn, Cond.instanceMethod yX9_turn, Cond.selects RX9 yX9_turn yX9_turn, Cond.code yX9_turn cX9_turn 3 (some .int), Cond.methodLink RX9 123 yX6_placeOf, Cond.instanceMethod yX6_placeOf, Cond.selects RX6 yX6_placeOf yX6_placeOf, Cond.code yX6_placeOf cX6_placeOf 2 (some .int), Cond.methodLink RX9 126 yX6_kindOf]
def wsL_law_r15 : List Cond := [Cond.methodLink RX9 129 yX6_isGone, Cond.instanceMethod yX6_isGone, Cond.selects RX6 yX6_isGone yX6_isGone, Cond.code yX6_isGone cX6_isGone 2 (some .boolean), Cond.methodLink RX9 132 yX6_valueOf, Cond.instanceMethod yX6_valueOf, Cond.selects RX6 yX6_valueOf yX6_valueOf, Cond.code yX6_valueOf cX6_valueOf 2 (some .int), Cond.methodLink RX9 135 yX6_pointTo, Cond.instanceMethod yX6_pointTo, Cond.selects RX6 yX6_pointTo yX6_pointTo, Cond.code yX6_pointTo cX6_pointTo 4 (some .int), Cond.methodLink RX6 80 yX6_valueOf, Cond.methodLink RL 36 yX10_turn, Cond.instanceMethod yX10_turn, Cond.selects RX10 yX10_turn yX10_turn, Cond.code yX10_turn cX10_turn 4 (some .int), Cond.methodLink RL 37 yX9_at, Cond.instanceMethod yX9_at, Cond.selects RX9 yX9_at yX9_at, Cond.code yX9_at cX9_at 3 (some .int), Cond.methodLink RX9 138 yX6_tell, Cond.instanceMethod yX6_tell, Cond.selects RX6 yX6_tell yX6_tell]
def wsL_law_r16 : List Cond := [Cond.code yX6_tell cX6_tell 3 (some .int), Cond.methodLink RX6 83 yX6_placeOf, Cond.methodLink RL 40 yX10_at, Cond.instanceMethod yX10_at, Cond.selects RX10 yX10_at yX10_at, Cond.code yX10_at cX10_at 3 (some .int), Cond.methodLink RL 41 yX9_set, Cond.instanceMethod yX9_set, Cond.selects RX9 yX9_set yX9_set, Cond.code yX9_set cX9_set 3 (some .int), Cond.methodLink RX9 141 yX6_changeFog, Cond.instanceMethod yX6_changeFog, Cond.selects RX6 yX6_changeFog yX6_changeFog, Cond.code yX6_changeFog cX6_changeFog 3 (some .int), Cond.methodLink RX9 144 yX4_changeLeeway, Cond.instanceMethod yX4_changeLeeway, Cond.selects RX4 yX4_changeLeeway yX4_changeLeeway, Cond.code yX4_changeLeeway cX4_changeLeeway 3 (some .int), Cond.methodLink RX9 147 yX7_changeReach, Cond.instanceMethod yX7_changeReach, Cond.selects RX7 yX7_changeReach yX7_changeReach, Cond.code yX7_changeReach cX7_changeReach 3 (some .int), Cond.methodLink RL 44 yX10_set, Cond.instanceMethod yX10_set]
def wsL_law_r17 : List Cond := [Cond.selects RX10 yX10_set yX10_set, Cond.code yX10_set cX10_set 4 (some .int), Cond.fieldLink RX10 122 "TwigsAndStonesModel" "fog" "I", Cond.fieldLink RX10 125 "TwigsAndStonesModel" "leeway" "I", Cond.methodLink RL 45 yX9_seen, Cond.instanceMethod yX9_seen, Cond.selects RX9 yX9_seen yX9_seen, Cond.code yX9_seen cX9_seen 3 (some .int), Cond.methodLink RX9 150 yX6_allSeen, Cond.instanceMethod yX6_allSeen, Cond.selects RX6 yX6_allSeen yX6_allSeen, Cond.code yX6_allSeen cX6_allSeen 5 (some .int), Cond.methodLink RX6 101 yX6_isSeen, Cond.instanceMethod yX6_isSeen, Cond.selects RX6 yX6_isSeen yX6_isSeen, Cond.code yX6_isSeen cX6_isSeen 5 (some .boolean), Cond.methodLink RX6 86 yX6_isGone, Cond.methodLink RX6 96 yX2_lengthOf, Cond.instanceMethod yX2_lengthOf, Cond.selects RX2 yX2_lengthOf yX2_lengthOf, Cond.code yX2_lengthOf cX2_lengthOf 2 (some .int), Cond.methodLink RL 48 yX10_seen, Cond.instanceMethod yX10_seen, Cond.selects RX10 yX10_seen yX10_seen]
def wsL_law_r18 : List Cond := [Cond.code yX10_seen cX10_seen 3 (some .int), Cond.methodLink RX10 128 yX10_seenBy, Cond.instanceMethod yX10_seenBy, Cond.selects RX10 yX10_seenBy yX10_seenBy, Cond.code yX10_seenBy cX10_seenBy 6 (some .int), Cond.methodLink RL 49 yX9_walk, Cond.instanceMethod yX9_walk, Cond.selects RX9 yX9_walk yX9_walk, Cond.code yX9_walk cX9_walk 3 (some .int), Cond.methodLink RX9 153 yX8_goFrom, Cond.instanceMethod yX8_goFrom, Cond.selects RX8 yX8_goFrom yX8_goFrom, Cond.code yX8_goFrom cX8_goFrom 8 none, Cond.methodLink RX8 69 yX5_clear, Cond.instanceMethod yX5_clear, Cond.selects RX5 yX5_clear yX5_clear, Cond.code yX5_clear cX5_clear 2 (some .int), Cond.methodLink RX8 72 yX5_push, Cond.methodLink RX8 75 yX8_choice, Cond.instanceMethod yX8_choice, Cond.selects RX8 yX8_choice yX8_choice, Cond.code yX8_choice cX8_choice 8 (some .int), Cond.methodLink RX8 35 yX6_signCount, Cond.methodLink RX8 41 yX6_isSeen]
def wsL_law_r19 : List Cond := [Cond.methodLink RX8 45 yX6_kindOf, Cond.methodLink RX8 49 yX6_valueOf, Cond.methodLink RX8 55 yX2_pathsAt, Cond.methodLink RX8 60 yX8_choiceAmong, Cond.instanceMethod yX8_choiceAmong, Cond.selects RX8 yX8_choiceAmong yX8_choiceAmong, Cond.code yX8_choiceAmong cX8_choiceAmong 4 (some .int), Cond.methodLink RX8 64 yJ6_bitCount_0f7a4, Cond.methodLink RX8 78 yX2_arcFrom, Cond.instanceMethod yX2_arcFrom, Cond.selects RX2 yX2_arcFrom yX2_arcFrom, Cond.code yX2_arcFrom cX2_arcFrom 3 (some .int), Cond.methodLink RX8 81 yX2_endOf, Cond.instanceMethod yX2_endOf, Cond.selects RX2 yX2_endOf yX2_endOf, Cond.code yX2_endOf cX2_endOf 2 (some .int), Cond.methodLink RX8 84 yX2_lengthOf, Cond.methodLink RX9 157 yX8_tell, Cond.instanceMethod yX8_tell, Cond.selects RX8 yX8_tell yX8_tell, Cond.code yX8_tell cX8_tell 2 (some .int), Cond.methodLink RX8 87 yX5_size, Cond.methodLink RX8 90 yX5_get, Cond.methodLink RL 52 yX10_walk]
def wsL_law_r20 : List Cond := [Cond.instanceMethod yX10_walk, Cond.selects RX10 yX10_walk yX10_walk, Cond.code yX10_walk cX10_walk 3 (some .int), Cond.fieldLink RX10 137 "TwigsAndStonesModel" "walkEnds" "I", Cond.fieldLink RX10 131 "TwigsAndStonesModel" "walkPaths" "I", Cond.fieldLink RX10 134 "TwigsAndStonesModel" "walkLength" "I", Cond.methodLink RX10 146 yX10_goWalk, Cond.instanceMethod yX10_goWalk, Cond.selects RX10 yX10_goWalk yX10_goWalk, Cond.code yX10_goWalk cX10_goWalk 6 none, Cond.methodLink RX10 140 yX10_goesBy, Cond.instanceMethod yX10_goesBy, Cond.selects RX10 yX10_goesBy yX10_goesBy, Cond.code yX10_goesBy cX10_goesBy 9 (some .int), Cond.methodLink RX10 143 yX10_otherEnd, Cond.instanceMethod yX10_otherEnd, Cond.selects RX10 yX10_otherEnd yX10_otherEnd, Cond.code yX10_otherEnd cX10_otherEnd 3 (some .int), Cond.methodLink RL 53 yX9_walked, Cond.instanceMethod yX9_walked, Cond.selects RX9 yX9_walked yX9_walked, Cond.code yX9_walked cX9_walked 3 (some .int), Cond.methodLink RX9 159 yX8_placeBehind, Cond.instanceMethod yX8_placeBehind]
def wsL_law_r21 : List Cond := [Cond.selects RX8 yX8_placeBehind yX8_placeBehind, Cond.code yX8_placeBehind cX8_placeBehind 2 (some .int), Cond.methodLink RL 56 yX10_walked, Cond.instanceMethod yX10_walked, Cond.selects RX10 yX10_walked yX10_walked, Cond.code yX10_walked cX10_walked 3 (some .int), Cond.methodLink RL 57 yX9_note, Cond.instanceMethod yX9_note, Cond.selects RX9 yX9_note yX9_note, Cond.code yX9_note cX9_note 2 (some .int), Cond.methodLink RX9 162 yX3_noteCount, Cond.instanceMethod yX3_noteCount, Cond.selects RX3 yX3_noteCount yX3_noteCount, Cond.code yX3_noteCount cX3_noteCount 1 (some .int), Cond.methodLink RX3 37 yX5_size, Cond.methodLink RX9 165 yX3_takeDown, Cond.instanceMethod yX3_takeDown, Cond.selects RX3 yX3_takeDown yX3_takeDown, Cond.code yX3_takeDown cX3_takeDown 2 (some .int), Cond.methodLink RX3 41 yX5_push, Cond.methodLink RL 60 yX10_note, Cond.instanceMethod yX10_note, Cond.selects RX10 yX10_note yX10_note, Cond.code yX10_note cX10_note 2 (some .int)]
def wsL_law_r22 : List Cond := [Cond.fieldLink RX10 150 "TwigsAndStonesModel" "notes" "I", Cond.methodLink RL 61 yX9_forget, Cond.instanceMethod yX9_forget, Cond.selects RX9 yX9_forget yX9_forget, Cond.code yX9_forget cX9_forget 1 (some .int), Cond.methodLink RX9 168 yX3_dropAll, Cond.instanceMethod yX3_dropAll, Cond.selects RX3 yX3_dropAll yX3_dropAll, Cond.code yX3_dropAll cX3_dropAll 1 (some .int), Cond.methodLink RX3 45 yX5_clear, Cond.methodLink RL 65 yX10_forget, Cond.instanceMethod yX10_forget, Cond.selects RX10 yX10_forget yX10_forget, Cond.code yX10_forget cX10_forget 2 (some .int), Cond.methodLink RL 66 yX9_ways, Cond.instanceMethod yX9_ways, Cond.selects RX9 yX9_ways yX9_ways, Cond.code yX9_ways cX9_ways 2 (some .int), Cond.methodLink RX9 171 yX3_waysFrom, Cond.instanceMethod yX3_waysFrom, Cond.selects RX3 yX3_waysFrom yX3_waysFrom, Cond.code yX3_waysFrom cX3_waysFrom 4 (some .int), Cond.methodLink RX3 48 yX3_noteCount, Cond.methodLink RX3 51 yX2_pathCount]
def wsL_law_r23 : List Cond := [Cond.methodLink RX3 54 yX2_endOf, Cond.methodLink RX3 57 yX3_waysOn, Cond.instanceMethod yX3_waysOn, Cond.selects RX3 yX3_waysOn yX3_waysOn, Cond.code yX3_waysOn cX3_waysOn 8 (some .int), Cond.methodLink RX3 65 yX5_get, Cond.methodLink RX3 68 yX6_kindsSeen, Cond.instanceMethod yX6_kindsSeen, Cond.selects RX6 yX6_kindsSeen yX6_kindsSeen, Cond.code yX6_kindsSeen cX6_kindsSeen 5 (some .int), Cond.methodLink RX3 74 yX3_exitsFrom, Cond.instanceMethod yX3_exitsFrom, Cond.selects RX3 yX3_exitsFrom yX3_exitsFrom, Cond.code yX3_exitsFrom cX3_exitsFrom 4 (some .int), Cond.methodLink RX3 83 yX2_pathsAt, Cond.methodLink RX3 80 yX3_waysBehind, Cond.instanceMethod yX3_waysBehind, Cond.selects RX3 yX3_waysBehind yX3_waysBehind, Cond.code yX3_waysBehind cX3_waysBehind 4 (some .int), Cond.methodLink RX3 86 yX2_arcFrom, Cond.methodLink RX3 61 yX5_put, Cond.methodLink RL 69 yX10_ways, Cond.instanceMethod yX10_ways, Cond.selects RX10 yX10_ways yX10_ways]
def wsL_law_r24 : List Cond := [Cond.code yX10_ways cX10_ways 2 (some .int), Cond.methodLink RX10 159 yX10_findWays, Cond.instanceMethod yX10_findWays, Cond.selects RX10 yX10_findWays yX10_findWays, Cond.code yX10_findWays cX10_findWays 7 none, Cond.methodLink RX10 153 yX10_isNoted, Cond.instanceMethod yX10_isNoted, Cond.selects RX10 yX10_isNoted yX10_isNoted, Cond.code yX10_isNoted cX10_isNoted 7 (some .boolean), Cond.methodLink RX10 156 yX10_mayGo, Cond.instanceMethod yX10_mayGo, Cond.selects RX10 yX10_mayGo yX10_mayGo, Cond.code yX10_mayGo cX10_mayGo 5 (some .boolean), Cond.methodLink RL 70 yX9_only, Cond.instanceMethod yX9_only, Cond.selects RX9 yX9_only yX9_only, Cond.code yX9_only cX9_only 3 (some .int), Cond.methodLink RX9 174 yX3_placeOnTheWay, Cond.instanceMethod yX3_placeOnTheWay, Cond.selects RX3 yX3_placeOnTheWay yX3_placeOnTheWay, Cond.code yX3_placeOnTheWay cX3_placeOnTheWay 6 (some .int), Cond.methodLink RX3 89 yX3_pathOn, Cond.instanceMethod yX3_pathOn, Cond.selects RX3 yX3_pathOn yX3_pathOn]
def wsL_law_r25 : List Cond := [Cond.code yX3_pathOn cX3_pathOn 6 (some .int), Cond.methodLink RX3 92 yX2_otherEnd, Cond.instanceMethod yX2_otherEnd, Cond.selects RX2 yX2_otherEnd yX2_otherEnd, Cond.code yX2_otherEnd cX2_otherEnd 3 (some .int), Cond.methodLink RX2 66 yX2_arcFrom, Cond.methodLink RX2 70 yX2_endOf, Cond.methodLink RL 73 yX10_only, Cond.instanceMethod yX10_only, Cond.selects RX10 yX10_only yX10_only, Cond.code yX10_only cX10_only 9 (some .int), Cond.methodLink RL 74 yX9_route, Cond.instanceMethod yX9_route, Cond.selects RX9 yX9_route yX9_route, Cond.code yX9_route cX9_route 2 (some .int), Cond.methodLink RX9 177 yX4_mayGoOnTo, Cond.instanceMethod yX4_mayGoOnTo, Cond.selects RX4 yX4_mayGoOnTo yX4_mayGoOnTo, Cond.code yX4_mayGoOnTo cX4_mayGoOnTo 2 (some .boolean), Cond.methodLink RX4 40 yX4_placeCount, Cond.instanceMethod yX4_placeCount, Cond.selects RX4 yX4_placeCount yX4_placeCount, Cond.code yX4_placeCount cX4_placeCount 1 (some .int), Cond.methodLink RX4 32 yX5_size]
def wsL_law_r26 : List Cond := [Cond.methodLink RX4 43 yX4_passes, Cond.instanceMethod yX4_passes, Cond.selects RX4 yX4_passes yX4_passes, Cond.code yX4_passes cX4_passes 2 (some .boolean), Cond.methodLink RX4 36 yX5_has, Cond.instanceMethod yX5_has, Cond.selects RX5 yX5_has yX5_has, Cond.code yX5_has cX5_has 3 (some .boolean), Cond.methodLink RX5 19 yX5_get, Cond.methodLink RX4 46 yX5_get, Cond.methodLink RX4 50 yX2_joining, Cond.methodLink RX9 180 yX4_placeCount, Cond.methodLink RX9 183 yX4_goOnTo, Cond.instanceMethod yX4_goOnTo, Cond.selects RX4 yX4_goOnTo yX4_goOnTo, Cond.code yX4_goOnTo cX4_goOnTo 2 (some .int), Cond.methodLink RX4 56 yX5_push, Cond.methodLink RL 77 yX10_route, Cond.instanceMethod yX10_route, Cond.selects RX10 yX10_route yX10_route, Cond.code yX10_route cX10_route 3 (some .int), Cond.fieldLink RX10 162 "TwigsAndStonesModel" "routes" "I", Cond.methodLink RL 78 yX9_unroute, Cond.instanceMethod yX9_unroute]
def wsL_law_r27 : List Cond := [Cond.selects RX9 yX9_unroute yX9_unroute, Cond.code yX9_unroute cX9_unroute 1 (some .int), Cond.methodLink RX9 186 yX4_dropAll, Cond.instanceMethod yX4_dropAll, Cond.selects RX4 yX4_dropAll yX4_dropAll, Cond.code yX4_dropAll cX4_dropAll 1 (some .int), Cond.methodLink RX4 59 yX5_clear, Cond.methodLink RL 81 yX10_unroute, Cond.instanceMethod yX10_unroute, Cond.selects RX10 yX10_unroute yX10_unroute, Cond.code yX10_unroute cX10_unroute 2 (some .int), Cond.methodLink RL 82 yX9_needed, Cond.instanceMethod yX9_needed, Cond.selects RX9 yX9_needed yX9_needed, Cond.code yX9_needed cX9_needed 2 (some .int), Cond.methodLink RX9 187 yX4_marksNeeded, Cond.instanceMethod yX4_marksNeeded, Cond.selects RX4 yX4_marksNeeded yX4_marksNeeded, Cond.code yX4_marksNeeded cX4_marksNeeded 8 (some .int), Cond.methodLink RX4 62 yX4_mayGoBadlyWrong, Cond.instanceMethod yX4_mayGoBadlyWrong, Cond.selects RX4 yX4_mayGoBadlyWrong yX4_mayGoBadlyWrong, Cond.code yX4_mayGoBadlyWrong cX4_mayGoBadlyWrong 6 (some .boolean), Cond.methodLink RX4 71 yX2_pathsAt]
def wsL_law_r28 : List Cond := [Cond.methodLink RX4 77 yX2_pathCount, Cond.methodLink RX4 80 yX4_isHarmless, Cond.instanceMethod yX4_isHarmless, Cond.selects RX4 yX4_isHarmless yX4_isHarmless, Cond.code yX4_isHarmless cX4_isHarmless 4 (some .boolean), Cond.methodLink RX4 84 yX2_otherEnd, Cond.methodLink RX4 87 yX2_lengthOf, Cond.methodLink RX4 66 yX8_choice, Cond.methodLink RL 85 yX10_needed, Cond.instanceMethod yX10_needed, Cond.selects RX10 yX10_needed yX10_needed, Cond.code yX10_needed cX10_needed 6 (some .int), Cond.methodLink RX10 168 yX10_isNeeded, Cond.instanceMethod yX10_isNeeded, Cond.selects RX10 yX10_isNeeded yX10_isNeeded, Cond.code yX10_isNeeded cX10_isNeeded 8 (some .boolean), Cond.methodLink RX10 165 yX10_isHarmless, Cond.instanceMethod yX10_isHarmless, Cond.selects RX10 yX10_isHarmless yX10_isHarmless, Cond.code yX10_isHarmless cX10_isHarmless 3 (some .boolean), Cond.methodLink RL 86 yX9_trail, Cond.instanceMethod yX9_trail, Cond.selects RX9 yX9_trail yX9_trail, Cond.code yX9_trail cX9_trail 3 (some .int)]
def wsL_law_r29 : List Cond := [Cond.methodLink RX9 190 yX7_trailCount, Cond.instanceMethod yX7_trailCount, Cond.selects RX7 yX7_trailCount yX7_trailCount, Cond.code yX7_trailCount cX7_trailCount 1 (some .int), Cond.methodLink RX7 42 yX5_size, Cond.methodLink RX9 193 yX7_begin, Cond.instanceMethod yX7_begin, Cond.selects RX7 yX7_begin yX7_begin, Cond.code yX7_begin cX7_begin 4 (some .int), Cond.methodLink RX7 50 yX7_trailCount, Cond.methodLink RX7 53 yX5_push, Cond.methodLink RX7 56 yX7_goOnTo, Cond.instanceMethod yX7_goOnTo, Cond.selects RX7 yX7_goOnTo yX7_goOnTo, Cond.code yX7_goOnTo cX7_goOnTo 4 (some .int), Cond.methodLink RX7 60 yX7_sizeOf, Cond.instanceMethod yX7_sizeOf, Cond.selects RX7 yX7_sizeOf yX7_sizeOf, Cond.code yX7_sizeOf cX7_sizeOf 2 (some .int), Cond.methodLink RX7 46 yX5_get, Cond.methodLink RX7 74 yX5_put, Cond.methodLink RL 90 yX10_trail, Cond.instanceMethod yX10_trail, Cond.selects RX10 yX10_trail yX10_trail]
def wsL_law_r30 : List Cond := [Cond.code yX10_trail cX10_trail 3 (some .int), Cond.fieldLink RX10 171 "TwigsAndStonesModel" "trails" "I", Cond.methodLink RL 91 yX9_add, Cond.instanceMethod yX9_add, Cond.selects RX9 yX9_add yX9_add, Cond.code yX9_add cX9_add 3 (some .int), Cond.methodLink RX9 197 yX7_mayGoOnTo, Cond.instanceMethod yX7_mayGoOnTo, Cond.selects RX7 yX7_mayGoOnTo yX7_mayGoOnTo, Cond.code yX7_mayGoOnTo cX7_mayGoOnTo 4 (some .boolean), Cond.methodLink RX7 63 yX7_placeAt, Cond.instanceMethod yX7_placeAt, Cond.selects RX7 yX7_placeAt yX7_placeAt, Cond.code yX7_placeAt cX7_placeAt 3 (some .int), Cond.methodLink RX7 66 yX7_indexOf, Cond.instanceMethod yX7_indexOf, Cond.selects RX7 yX7_indexOf yX7_indexOf, Cond.code yX7_indexOf cX7_indexOf 4 (some .int), Cond.methodLink RX7 69 yX2_joining, Cond.methodLink RX9 199 yX7_sizeOf, Cond.methodLink RX9 202 yX7_goOnTo, Cond.methodLink RL 94 yX10_add, Cond.instanceMethod yX10_add, Cond.selects RX10 yX10_add yX10_add]
def wsL_law_r31 : List Cond := [Cond.code yX10_add cX10_add 5 (some .int), Cond.methodLink RL 95 yX9_breaks, Cond.instanceMethod yX9_breaks, Cond.selects RX9 yX9_breaks yX9_breaks, Cond.code yX9_breaks cX9_breaks 2 (some .int), Cond.methodLink RX9 204 yX7_faultsOf, Cond.instanceMethod yX7_faultsOf, Cond.selects RX7 yX7_faultsOf yX7_faultsOf, Cond.code yX7_faultsOf cX7_faultsOf 4 (some .int), Cond.methodLink RX7 78 yX7_isFalse, Cond.instanceMethod yX7_isFalse, Cond.selects RX7 yX7_isFalse yX7_isFalse, Cond.code yX7_isFalse cX7_isFalse 2 (some .boolean), Cond.methodLink RX7 82 yX4_passes, Cond.methodLink RX7 87 yX7_comesBackToRoute, Cond.instanceMethod yX7_comesBackToRoute, Cond.selects RX7 yX7_comesBackToRoute yX7_comesBackToRoute, Cond.code yX7_comesBackToRoute cX7_comesBackToRoute 3 (some .boolean), Cond.methodLink RX7 90 yX7_wholeLength, Cond.instanceMethod yX7_wholeLength, Cond.selects RX7 yX7_wholeLength yX7_wholeLength, Cond.code yX7_wholeLength cX7_wholeLength 4 (some .int), Cond.methodLink RX7 97 yX2_lengthOf, Cond.methodLink RX7 93 yX7_crosses]
def wsL_law_r32 : List Cond := [Cond.instanceMethod yX7_crosses, Cond.selects RX7 yX7_crosses yX7_crosses, Cond.code yX7_crosses cX7_crosses 5 (some .boolean), Cond.methodLink RL 98 yX10_breaks, Cond.instanceMethod yX10_breaks, Cond.selects RX10 yX10_breaks yX10_breaks, Cond.code yX10_breaks cX10_breaks 5 (some .int), Cond.methodLink RX10 174 yX10_isOnRoute, Cond.instanceMethod yX10_isOnRoute, Cond.selects RX10 yX10_isOnRoute yX10_isOnRoute, Cond.code yX10_isOnRoute cX10_isOnRoute 4 (some .boolean), Cond.methodLink RX10 177 yX10_doCross, Cond.instanceMethod yX10_doCross, Cond.selects RX10 yX10_doCross yX10_doCross, Cond.code yX10_doCross cX10_doCross 6 (some .boolean), Cond.methodLink RL 99 yX9_branch, Cond.instanceMethod yX9_branch, Cond.selects RX9 yX9_branch yX9_branch, Cond.code yX9_branch cX9_branch 2 (some .int), Cond.methodLink RX9 207 yX1_branchCount, Cond.instanceMethod yX1_branchCount, Cond.selects RX1 yX1_branchCount yX1_branchCount, Cond.code yX1_branchCount cX1_branchCount 1 (some .int), Cond.methodLink RX1 28 yX5_size]
def wsL_law_r33 : List Cond := [Cond.methodLink RX9 210 yX1_grow, Cond.instanceMethod yX1_grow, Cond.selects RX1 yX1_grow yX1_grow, Cond.code yX1_grow cX1_grow 2 (some .int), Cond.methodLink RX1 32 yX5_push, Cond.methodLink RL 102 yX10_branch, Cond.instanceMethod yX10_branch, Cond.selects RX10 yX10_branch yX10_branch, Cond.code yX10_branch cX10_branch 2 (some .int), Cond.fieldLink RX10 180 "TwigsAndStonesModel" "branches" "I", Cond.methodLink RL 103 yX9_unbranch, Cond.instanceMethod yX9_unbranch, Cond.selects RX9 yX9_unbranch yX9_unbranch, Cond.code yX9_unbranch cX9_unbranch 1 (some .int), Cond.methodLink RX9 213 yX1_dropAll, Cond.instanceMethod yX1_dropAll, Cond.selects RX1 yX1_dropAll yX1_dropAll, Cond.code yX1_dropAll cX1_dropAll 1 (some .int), Cond.methodLink RX1 36 yX5_clear, Cond.methodLink RL 106 yX10_unbranch, Cond.instanceMethod yX10_unbranch, Cond.selects RX10 yX10_unbranch yX10_unbranch, Cond.code yX10_unbranch cX10_unbranch 2 (some .int), Cond.methodLink RL 107 yX9_worst]
def wsL_law_r34 : List Cond := [Cond.instanceMethod yX9_worst, Cond.selects RX9 yX9_worst yX9_worst, Cond.code yX9_worst cX9_worst 2 (some .int), Cond.methodLink RX9 214 yX1_findBestSplit, Cond.instanceMethod yX1_findBestSplit, Cond.selects RX1 yX1_findBestSplit yX1_findBestSplit, Cond.code yX1_findBestSplit cX1_findBestSplit 5 (some .int), Cond.methodLink RX1 42 yX1_branchCount, Cond.methodLink RX1 45 yX5_put, Cond.methodLink RX1 49 yX1_worstTime, Cond.instanceMethod yX1_worstTime, Cond.selects RX1 yX1_worstTime yX1_worstTime, Cond.code yX1_worstTime cX1_worstTime 8 (some .int), Cond.methodLink RX1 59 Lib.Math.max.name, Cond.methodLink RX1 39 yX5_get, Cond.methodLink RX1 52 yX1_keepTried, Cond.instanceMethod yX1_keepTried, Cond.selects RX1 yX1_keepTried yX1_keepTried, Cond.code yX1_keepTried cX1_keepTried 2 none, Cond.methodLink RX1 55 yX1_takeNextSplit, Cond.instanceMethod yX1_takeNextSplit, Cond.selects RX1 yX1_takeNextSplit yX1_takeNextSplit, Cond.code yX1_takeNextSplit cX1_takeNextSplit 4 (some .boolean), Cond.methodLink RL 110 yX10_worst]
def wsL_law_r35 : List Cond := [Cond.instanceMethod yX10_worst, Cond.selects RX10 yX10_worst yX10_worst, Cond.code yX10_worst cX10_worst 2 (some .int), Cond.fieldLink RX10 187 "TwigsAndStonesModel" "bestWorst" "I", Cond.methodLink RX10 193 yX10_findSplit, Cond.instanceMethod yX10_findSplit, Cond.selects RX10 yX10_findSplit yX10_findSplit, Cond.code yX10_findSplit cX10_findSplit 8 (some .int), Cond.methodLink RX10 190 yX10_foundAt, Cond.instanceMethod yX10_foundAt, Cond.selects RX10 yX10_foundAt yX10_foundAt, Cond.code yX10_foundAt cX10_foundAt 7 (some .int), Cond.methodLink RX10 183 yX10_houndOf, Cond.instanceMethod yX10_houndOf, Cond.selects RX10 yX10_houndOf yX10_houndOf, Cond.code yX10_houndOf cX10_houndOf 6 (some .int), Cond.methodLink RL 111 yX9_split, Cond.instanceMethod yX9_split, Cond.selects RX9 yX9_split yX9_split, Cond.code yX9_split cX9_split 4 (some .int), Cond.methodLink RX9 217 yX1_houndOf, Cond.instanceMethod yX1_houndOf, Cond.selects RX1 yX1_houndOf yX1_houndOf, Cond.code yX1_houndOf cX1_houndOf 2 (some .int)]
def wsL_law_r36 : List Cond := [Cond.methodLink RX9 220 yX1_timeOf, Cond.instanceMethod yX1_timeOf, Cond.selects RX1 yX1_timeOf yX1_timeOf, Cond.code yX1_timeOf cX1_timeOf 4 (some .int), Cond.methodLink RX1 65 yX1_houndOf, Cond.methodLink RX1 68 yX1_comesBefore, Cond.instanceMethod yX1_comesBefore, Cond.selects RX1 yX1_comesBefore yX1_comesBefore, Cond.code yX1_comesBefore cX1_comesBefore 4 (some .boolean), Cond.methodLink RL 114 yX10_split, Cond.instanceMethod yX10_split, Cond.selects RX10 yX10_split yX10_split, Cond.code yX10_split cX10_split 5 (some .int), Cond.methodLink RL 115 yX9_club, Cond.instanceMethod yX9_club, Cond.selects RX9 yX9_club yX9_club, Cond.code yX9_club cX9_club 3 (some .int), Cond.methodLink RX9 223 yX9_isClub, Cond.static yX9_isClub, Cond.code yX9_isClub cX9_isClub 1 (some .boolean), Cond.methodLink RX9 226 yX2_allPaths, Cond.instanceMethod yX2_allPaths, Cond.selects RX2 yX2_allPaths yX2_allPaths, Cond.code yX2_allPaths cX2_allPaths 1 (some .int)]
def wsL_law_r37 : List Cond := [Cond.methodLink RX9 229 yX0_changePaths, Cond.instanceMethod yX0_changePaths, Cond.selects RX0 yX0_changePaths yX0_changePaths, Cond.code yX0_changePaths cX0_changePaths 4 (some .int), Cond.methodLink RX0 33 yX5_get, Cond.methodLink RX0 37 yX5_put, Cond.methodLink RL 118 yX10_club, Cond.instanceMethod yX10_club, Cond.selects RX10 yX10_club yX10_club, Cond.code yX10_club cX10_club 4 (some .int), Cond.methodLink RL 119 yX9_colour, Cond.instanceMethod yX9_colour, Cond.selects RX9 yX9_colour yX9_colour, Cond.code yX9_colour cX9_colour 4 (some .int), Cond.methodLink RX9 235 yX0_toldColours, Cond.instanceMethod yX0_toldColours, Cond.selects RX0 yX0_toldColours yX0_toldColours, Cond.code yX0_toldColours cX0_toldColours 1 (some .int), Cond.methodLink RX0 41 yX5_size, Cond.methodLink RX9 238 yX0_tellColour, Cond.instanceMethod yX0_tellColour, Cond.selects RX0 yX0_tellColour yX0_tellColour, Cond.code yX0_tellColour cX0_tellColour 4 (some .int), Cond.methodLink RX0 45 yX5_push]
def wsL_law_r38 : List Cond := [Cond.methodLink RL 122 yX10_colour, Cond.instanceMethod yX10_colour, Cond.selects RX10 yX10_colour yX10_colour, Cond.code yX10_colour cX10_colour 4 (some .int), Cond.fieldLink RX10 196 "TwigsAndStonesModel" "colours" "I", Cond.methodLink RL 123 yX9_whose, Cond.instanceMethod yX9_whose, Cond.selects RX9 yX9_whose yX9_whose, Cond.code yX9_whose cX9_whose 5 (some .int), Cond.methodLink RX9 241 yX0_ownersOf, Cond.instanceMethod yX0_ownersOf, Cond.selects RX0 yX0_ownersOf yX0_ownersOf, Cond.code yX0_ownersOf cX0_ownersOf 9 (some .int), Cond.methodLink RX0 48 yX0_lastHue, Cond.instanceMethod yX0_lastHue, Cond.selects RX0 yX0_lastHue yX0_lastHue, Cond.code yX0_lastHue cX0_lastHue 7 (some .int), Cond.methodLink RX0 59 yX0_toldColours, Cond.methodLink RX0 52 yX0_everHad, Cond.instanceMethod yX0_everHad, Cond.selects RX0 yX0_everHad yX0_everHad, Cond.code yX0_everHad cX0_everHad 5 (some .boolean), Cond.methodLink RL 127 yX10_whose, Cond.instanceMethod yX10_whose]
def wsL_law_r39 : List Cond := [Cond.selects RX10 yX10_whose yX10_whose, Cond.code yX10_whose cX10_whose 8 (some .int), Cond.methodLink RX10 199 yX10_colourTo, Cond.instanceMethod yX10_colourTo, Cond.selects RX10 yX10_colourTo yX10_colourTo, Cond.code yX10_colourTo cX10_colourTo 7 (some .int), Cond.methodLink RL 128 yX9_count, Cond.instanceMethod yX9_count, Cond.selects RX9 yX9_count yX9_count, Cond.code yX9_count cX9_count 2 (some .int), Cond.methodLink RX9 245 yX6_countLeft, Cond.instanceMethod yX6_countLeft, Cond.selects RX6 yX6_countLeft yX6_countLeft, Cond.code yX6_countLeft cX6_countLeft 3 (some .int), Cond.methodLink RL 131 yX10_count, Cond.instanceMethod yX10_count, Cond.selects RX10 yX10_count yX10_count, Cond.code yX10_count cX10_count 4 (some .int)]
def wsL_law : List Cond := (wsL_law_r1 ++ (wsL_law_r2 ++ (wsL_law_r3 ++ (wsL_law_r4 ++ (wsL_law_r5 ++ (wsL_law_r6 ++ (wsL_law_r7 ++ (wsL_law_r8 ++ (wsL_law_r9 ++ (wsL_law_r10 ++ (wsL_law_r11 ++ (wsL_law_r12 ++ (wsL_law_r13 ++ (wsL_law_r14 ++ (wsL_law_r15 ++ (wsL_law_r16 ++ (wsL_law_r17 ++ (wsL_law_r18 ++ (wsL_law_r19 ++ (wsL_law_r20 ++ (wsL_law_r21 ++ (wsL_law_r22 ++ (wsL_law_r23 ++ (wsL_law_r24 ++ (wsL_law_r25 ++ (wsL_law_r26 ++ (wsL_law_r27 ++ (wsL_law_r28 ++ (wsL_law_r29 ++ (wsL_law_r30 ++ (wsL_law_r31 ++ (wsL_law_r32 ++ (wsL_law_r33 ++ (wsL_law_r34 ++ (wsL_law_r35 ++ (wsL_law_r36 ++ (wsL_law_r37 ++ (wsL_law_r38 ++ wsL_law_r39)))))))))))))))))))))))))))))))))))))) ++ wsX90 ++ wsX100 ++ wsX20 ++ wsX60 ++ wsX80 ++ wsX30 ++ wsX40 ++ wsX70 ++ wsX10 ++ wsX00 ++ wsX50 ++ ([] : List Cond)
set_option maxRecDepth 20000 in
theorem gr_1 : GoodIn lw_tbl wsL_law_r1 := goodIn_r _ [51, 52, 38, 853, 854, 48, 53, 54, 55, 56, 57, 58, 59, 60, 39, 274, 96, 97, 41, 275, 138, 139, 42, 276] (by decide +kernel) (by decide +kernel)
set_option maxRecDepth 20000 in
theorem gr_2 : GoodIn lw_tbl wsL_law_r2 := goodIn_r _ [162, 163, 43, 277, 184, 185, 44, 278, 205, 206, 45, 279, 233, 234, 46, 280, 252, 253, 47, 281, 62, 63, 64, 65] (by decide +kernel) (by decide +kernel)
set_option maxRecDepth 20000 in
theorem gr_3 : GoodIn lw_tbl wsL_law_r3 := goodIn_r _ [66, 40, 83, 84, 85, 86, 67, 68, 69, 70, 78, 71, 79, 80, 81, 82, 72, 98, 99, 100, 101, 102, 105, 106] (by decide +kernel) (by decide +kernel)
set_option maxRecDepth 20000 in
theorem gr_4 : GoodIn lw_tbl wsL_law_r4 := goodIn_r _ [107, 108, 109, 110, 111, 112, 113, 114, 104, 103, 140, 141, 142, 143, 144, 148, 149, 150, 146, 147, 145, 164, 165, 166] (by decide +kernel) (by decide +kernel)
set_option maxRecDepth 20000 in
theorem gr_5 : GoodIn lw_tbl wsL_law_r5 := goodIn_r _ [167, 168, 173, 174, 171, 172, 169, 170, 186, 187, 188, 189, 190, 194, 195, 192, 193, 191, 207, 208, 209, 210, 211, 216] (by decide +kernel) (by decide +kernel)
set_option maxRecDepth 20000 in
theorem gr_6 : GoodIn lw_tbl wsL_law_r6 := goodIn_r _ [217, 218, 219, 214, 215, 212, 213, 236, 237, 238, 239, 242, 243, 244, 240, 241, 255, 256, 257, 258, 261, 262, 263, 264] (by decide +kernel) (by decide +kernel)
set_option maxRecDepth 20000 in
theorem gr_7 : GoodIn lw_tbl wsL_law_r7 := goodIn_r _ [259, 260, 855, 856, 857, 858, 860, 861, 862, 866, 867, 868, 869, 870, 871, 983, 872, 873, 876, 880, 881, 883, 884, 886] (by decide +kernel) (by decide +kernel)
set_option maxRecDepth 20000 in
theorem gr_8 : GoodIn lw_tbl wsL_law_r8 := goodIn_r _ [888, 889, 890, 892, 894, 895, 897, 898, 899, 299, 300, 301, 302, 303, 304, 305, 306, 307, 308, 309, 310, 311, 312, 313] (by decide +kernel) (by decide +kernel)
set_option maxRecDepth 20000 in
theorem gr_9 : GoodIn lw_tbl wsL_law_r9 := goodIn_r _ [314, 315, 316, 318, 319, 320, 321, 322, 323, 49, 324, 325, 326, 327, 328, 329, 330, 331, 332, 333, 334, 335, 336, 337] (by decide +kernel) (by decide +kernel)
set_option maxRecDepth 20000 in
theorem gr_10 : GoodIn lw_tbl wsL_law_r10 := goodIn_r _ [338, 339, 340, 341, 342, 343, 344, 346, 347, 348, 349, 350, 351, 984, 985, 986, 987, 859, 988, 989, 990, 991, 992, 993] (by decide +kernel) (by decide +kernel)
set_option maxRecDepth 20000 in
theorem gr_11 : GoodIn lw_tbl wsL_law_r11 := goodIn_r _ [994, 996, 19, 997, 998, 1000, 20, 1001, 352, 353, 354, 355, 356, 357, 358, 359, 1002, 1003, 1004, 1005, 864, 360, 361, 362] (by decide +kernel) (by decide +kernel)
set_option maxRecDepth 20000 in
theorem gr_12 : GoodIn lw_tbl wsL_law_r12 := goodIn_r _ [363, 364, 365, 366, 367, 368, 369, 370, 371, 382, 383, 50, 384, 372, 373, 374, 375, 376, 377, 378, 379, 380, 381, 385] (by decide +kernel) (by decide +kernel)
set_option maxRecDepth 20000 in
theorem gr_13 : GoodIn lw_tbl wsL_law_r13 := goodIn_r _ [1006, 1007, 1008, 1009, 863, 865, 386, 387, 388, 389, 390, 391, 392, 393, 394, 395, 396, 397, 398, 399, 400, 401, 402, 403] (by decide +kernel) (by decide +kernel)
set_option maxRecDepth 20000 in
theorem gr_14 : GoodIn lw_tbl wsL_law_r14 := goodIn_r _ [404, 405, 406, 407, 408, 410, 409, 1010, 1011, 1012, 1013, 1014, 1016, 21, 1017, 411, 412, 413, 414, 415, 416, 417, 418, 419] (by decide +kernel) (by decide +kernel)
set_option maxRecDepth 20000 in
theorem gr_15 : GoodIn lw_tbl wsL_law_r15 := goodIn_r _ [420, 421, 422, 423, 424, 425, 426, 427, 428, 429, 430, 431, 432, 1018, 1019, 1020, 1021, 433, 434, 435, 436, 437, 438, 439] (by decide +kernel) (by decide +kernel)
set_option maxRecDepth 20000 in
theorem gr_16 : GoodIn lw_tbl wsL_law_r16 := goodIn_r _ [440, 441, 1022, 1023, 1024, 1025, 442, 443, 444, 445, 446, 447, 448, 449, 450, 451, 452, 453, 454, 455, 456, 457, 1026, 1027] (by decide +kernel) (by decide +kernel)
set_option maxRecDepth 20000 in
theorem gr_17 : GoodIn lw_tbl wsL_law_r17 := goodIn_r _ [1028, 1029, 874, 875, 458, 459, 460, 461, 462, 463, 464, 465, 466, 467, 468, 469, 470, 473, 474, 475, 476, 1030, 1031, 1032] (by decide +kernel) (by decide +kernel)
set_option maxRecDepth 20000 in
theorem gr_18 : GoodIn lw_tbl wsL_law_r18 := goodIn_r _ [1033, 1034, 1036, 22, 1037, 477, 478, 479, 480, 481, 482, 483, 484, 485, 486, 487, 488, 489, 490, 491, 492, 493, 494, 495] (by decide +kernel) (by decide +kernel)
set_option maxRecDepth 20000 in
theorem gr_19 : GoodIn lw_tbl wsL_law_r19 := goodIn_r _ [496, 497, 499, 500, 502, 0, 503, 504, 505, 506, 507, 508, 509, 510, 511, 512, 513, 514, 515, 516, 517, 518, 519, 1038] (by decide +kernel) (by decide +kernel)
set_option maxRecDepth 20000 in
theorem gr_20 : GoodIn lw_tbl wsL_law_r20 := goodIn_r _ [1039, 1040, 1041, 877, 878, 879, 1042, 1044, 23, 1045, 1046, 1048, 24, 1049, 1050, 1052, 25, 1053, 520, 521, 522, 523, 524, 525] (by decide +kernel) (by decide +kernel)
set_option maxRecDepth 20000 in
theorem gr_21 : GoodIn lw_tbl wsL_law_r21 := goodIn_r _ [526, 527, 1054, 1055, 1056, 1057, 528, 529, 530, 531, 532, 533, 534, 535, 536, 537, 538, 539, 540, 541, 1058, 1059, 1060, 1061] (by decide +kernel) (by decide +kernel)
set_option maxRecDepth 20000 in
theorem gr_22 : GoodIn lw_tbl wsL_law_r22 := goodIn_r _ [882, 542, 543, 544, 545, 546, 547, 548, 549, 550, 1062, 1063, 1064, 1065, 551, 552, 553, 554, 555, 556, 557, 558, 559, 560] (by decide +kernel) (by decide +kernel)
set_option maxRecDepth 20000 in
theorem gr_23 : GoodIn lw_tbl wsL_law_r23 := goodIn_r _ [561, 562, 564, 1, 565, 566, 567, 568, 569, 570, 571, 573, 2, 574, 575, 577, 579, 3, 580, 581, 582, 1066, 1067, 1068] (by decide +kernel) (by decide +kernel)
set_option maxRecDepth 20000 in
theorem gr_24 : GoodIn lw_tbl wsL_law_r24 := goodIn_r _ [1069, 1070, 1072, 26, 1073, 1074, 1076, 27, 1077, 1078, 1080, 28, 1081, 583, 584, 585, 586, 587, 588, 589, 590, 591, 593, 4] (by decide +kernel) (by decide +kernel)
set_option maxRecDepth 20000 in
theorem gr_25 : GoodIn lw_tbl wsL_law_r25 := goodIn_r _ [594, 595, 596, 597, 598, 599, 600, 1082, 1083, 1084, 1085, 601, 602, 603, 604, 605, 606, 607, 608, 609, 610, 611, 612, 613] (by decide +kernel) (by decide +kernel)
set_option maxRecDepth 20000 in
theorem gr_26 : GoodIn lw_tbl wsL_law_r26 := goodIn_r _ [614, 615, 616, 617, 618, 619, 620, 621, 622, 623, 624, 625, 626, 627, 628, 629, 630, 1086, 1087, 1088, 1089, 885, 631, 632] (by decide +kernel) (by decide +kernel)
set_option maxRecDepth 20000 in
theorem gr_27 : GoodIn lw_tbl wsL_law_r27 := goodIn_r _ [633, 634, 635, 636, 637, 638, 639, 1090, 1091, 1092, 1093, 640, 641, 642, 643, 644, 645, 646, 647, 648, 650, 5, 651, 652] (by decide +kernel) (by decide +kernel)
set_option maxRecDepth 20000 in
theorem gr_28 : GoodIn lw_tbl wsL_law_r28 := goodIn_r _ [654, 655, 657, 6, 658, 659, 660, 661, 1094, 1095, 1096, 1097, 1098, 1100, 29, 1101, 1102, 1104, 30, 1105, 662, 663, 664, 665] (by decide +kernel) (by decide +kernel)
set_option maxRecDepth 20000 in
theorem gr_29 : GoodIn lw_tbl wsL_law_r29 := goodIn_r _ [666, 667, 668, 669, 670, 671, 672, 673, 674, 675, 676, 677, 678, 679, 680, 681, 682, 683, 684, 685, 686, 1106, 1107, 1108] (by decide +kernel) (by decide +kernel)
set_option maxRecDepth 20000 in
theorem gr_30 : GoodIn lw_tbl wsL_law_r30 := goodIn_r _ [1109, 887, 687, 688, 689, 690, 691, 692, 693, 694, 695, 697, 7, 698, 699, 701, 8, 702, 703, 704, 705, 1110, 1111, 1112] (by decide +kernel) (by decide +kernel)
set_option maxRecDepth 20000 in
theorem gr_31 : GoodIn lw_tbl wsL_law_r31 := goodIn_r _ [1113, 706, 707, 708, 709, 710, 711, 712, 713, 714, 716, 9, 717, 718, 719, 721, 10, 722, 723, 725, 11, 726, 727, 728] (by decide +kernel) (by decide +kernel)
set_option maxRecDepth 20000 in
theorem gr_32 : GoodIn lw_tbl wsL_law_r32 := goodIn_r _ [730, 12, 731, 1114, 1115, 1116, 1117, 1118, 1120, 31, 1121, 1122, 1124, 32, 1125, 732, 733, 734, 735, 736, 737, 738, 739, 740] (by decide +kernel) (by decide +kernel)
set_option maxRecDepth 20000 in
theorem gr_33 : GoodIn lw_tbl wsL_law_r33 := goodIn_r _ [741, 742, 743, 744, 745, 1126, 1127, 1128, 1129, 891, 746, 747, 748, 749, 750, 751, 752, 753, 754, 1130, 1131, 1132, 1133, 755] (by decide +kernel) (by decide +kernel)
set_option maxRecDepth 20000 in
theorem gr_34 : GoodIn lw_tbl wsL_law_r34 := goodIn_r _ [756, 757, 758, 759, 760, 761, 762, 763, 764, 765, 767, 13, 768, 770, 769, 771, 773, 14, 774, 775, 777, 15, 778, 1134] (by decide +kernel) (by decide +kernel)
set_option maxRecDepth 20000 in
theorem gr_35 : GoodIn lw_tbl wsL_law_r35 := goodIn_r _ [1135, 1136, 1137, 893, 1138, 1140, 33, 1141, 1142, 1144, 34, 1145, 1146, 1148, 35, 1149, 779, 780, 781, 782, 783, 784, 785, 786] (by decide +kernel) (by decide +kernel)
set_option maxRecDepth 20000 in
theorem gr_36 : GoodIn lw_tbl wsL_law_r36 := goodIn_r _ [787, 788, 789, 790, 791, 792, 794, 16, 795, 1150, 1151, 1152, 1153, 796, 797, 798, 799, 800, 801, 802, 803, 804, 805, 806] (by decide +kernel) (by decide +kernel)
set_option maxRecDepth 20000 in
theorem gr_37 : GoodIn lw_tbl wsL_law_r37 := goodIn_r _ [807, 808, 809, 810, 811, 812, 1154, 1155, 1156, 1157, 813, 814, 815, 816, 817, 818, 819, 820, 821, 822, 823, 824, 825, 826] (by decide +kernel) (by decide +kernel)
set_option maxRecDepth 20000 in
theorem gr_38 : GoodIn lw_tbl wsL_law_r38 := goodIn_r _ [1158, 1159, 1160, 1161, 896, 827, 828, 829, 830, 831, 832, 833, 834, 835, 837, 17, 838, 839, 840, 842, 18, 843, 1162, 1163] (by decide +kernel) (by decide +kernel)
set_option maxRecDepth 20000 in
theorem gr_39 : GoodIn lw_tbl wsL_law_r39 := goodIn_r _ [1164, 1165, 1166, 1168, 36, 1169, 845, 846, 847, 848, 849, 850, 851, 852, 1170, 1171, 1172, 1173] (by decide +kernel) (by decide +kernel)
set_option maxRecDepth 20000 in
theorem gx_0 : GoodIn lw_tbl wsX00 := goodIn_r _ [265, 267, 269, 271] (by decide +kernel) (by decide +kernel)
set_option maxRecDepth 20000 in
theorem gx_1 : GoodIn lw_tbl wsX10 := goodIn_r _ [245, 247, 249] (by decide +kernel) (by decide +kernel)
set_option maxRecDepth 20000 in
theorem gx_2 : GoodIn lw_tbl wsX20 := goodIn_r _ [87, 89, 91, 93] (by decide +kernel) (by decide +kernel)
set_option maxRecDepth 20000 in
theorem gx_3 : GoodIn lw_tbl wsX30 := goodIn_r _ [175, 177, 179, 181] (by decide +kernel) (by decide +kernel)
set_option maxRecDepth 20000 in
theorem gx_4 : GoodIn lw_tbl wsX40 := goodIn_r _ [196, 198, 200, 202] (by decide +kernel) (by decide +kernel)
set_option maxRecDepth 20000 in
theorem gx_5 : GoodIn lw_tbl wsX50 := goodIn_r _ [73, 75] (by decide +kernel) (by decide +kernel)
set_option maxRecDepth 20000 in
theorem gx_6 : GoodIn lw_tbl wsX60 := goodIn_r _ [115, 117, 119, 121, 123, 125, 127, 129, 131, 133, 135] (by decide +kernel) (by decide +kernel)
set_option maxRecDepth 20000 in
theorem gx_7 : GoodIn lw_tbl wsX70 := goodIn_r _ [220, 222, 224, 226, 228, 230] (by decide +kernel) (by decide +kernel)
set_option maxRecDepth 20000 in
theorem gx_8 : GoodIn lw_tbl wsX80 := goodIn_r _ [151, 153, 155, 157, 159] (by decide +kernel) (by decide +kernel)
set_option maxRecDepth 20000 in
theorem gx_9 : GoodIn lw_tbl wsX90 := goodIn_r _ [282, 284, 286, 288, 290, 292, 294, 296] (by decide +kernel) (by decide +kernel)
set_option maxRecDepth 20000 in
theorem gx_10 : GoodIn lw_tbl wsX100 := goodIn_r _ [900, 902, 904, 906, 908, 910, 912, 914, 916, 918, 920, 922, 924, 926, 928, 930, 932, 934, 936, 938, 940, 942, 944, 946, 948, 950, 952, 954, 956, 958, 960, 962, 964, 966, 968, 970, 972, 974, 976, 978, 980] (by decide +kernel) (by decide +kernel)
theorem big_G : GoodIn lw_tbl wsL_law := goodIn_app (goodIn_app (goodIn_app (goodIn_app (goodIn_app (goodIn_app (goodIn_app (goodIn_app (goodIn_app (goodIn_app (goodIn_app (goodIn_app (goodIn_app gr_1 (goodIn_app gr_2 (goodIn_app gr_3 (goodIn_app gr_4 (goodIn_app gr_5 (goodIn_app gr_6 (goodIn_app gr_7 (goodIn_app gr_8 (goodIn_app gr_9 (goodIn_app gr_10 (goodIn_app gr_11 (goodIn_app gr_12 (goodIn_app gr_13 (goodIn_app gr_14 (goodIn_app gr_15 (goodIn_app gr_16 (goodIn_app gr_17 (goodIn_app gr_18 (goodIn_app gr_19 (goodIn_app gr_20 (goodIn_app gr_21 (goodIn_app gr_22 (goodIn_app gr_23 (goodIn_app gr_24 (goodIn_app gr_25 (goodIn_app gr_26 (goodIn_app gr_27 (goodIn_app gr_28 (goodIn_app gr_29 (goodIn_app gr_30 (goodIn_app gr_31 (goodIn_app gr_32 (goodIn_app gr_33 (goodIn_app gr_34 (goodIn_app gr_35 (goodIn_app gr_36 (goodIn_app gr_37 (goodIn_app gr_38 gr_39)))))))))))))))))))))))))))))))))))))) gx_9) gx_10) gx_2) gx_6) gx_8) gx_3) gx_4) gx_7) gx_1) gx_0) gx_5) (fun _ h => absurd h List.not_mem_nil)
theorem wsL_law_in : ∀ w ∈ wsL_law, w ∈ lw_tbl := fun w h => (big_G w h).1
theorem inlX0 : ∀ w ∈ wsX00, w ∈ wsL_law := fun _ h => List.mem_append_left _ (List.mem_append_left _ (List.mem_append_right _ h))
theorem inX0 : ∀ w ∈ wsX00, w ∈ lw_tbl := fun w h => wsL_law_in w (inlX0 w h)
theorem inlX1 : ∀ w ∈ wsX10, w ∈ wsL_law := fun _ h => List.mem_append_left _ (List.mem_append_left _ (List.mem_append_left _ (List.mem_append_right _ h)))
theorem inX1 : ∀ w ∈ wsX10, w ∈ lw_tbl := fun w h => wsL_law_in w (inlX1 w h)
theorem inlX2 : ∀ w ∈ wsX20, w ∈ wsL_law := fun _ h => List.mem_append_left _ (List.mem_append_left _ (List.mem_append_left _ (List.mem_append_left _ (List.mem_append_left _ (List.mem_append_left _ (List.mem_append_left _ (List.mem_append_left _ (List.mem_append_left _ (List.mem_append_right _ h)))))))))
theorem inX2 : ∀ w ∈ wsX20, w ∈ lw_tbl := fun w h => wsL_law_in w (inlX2 w h)
theorem inlX3 : ∀ w ∈ wsX30, w ∈ wsL_law := fun _ h => List.mem_append_left _ (List.mem_append_left _ (List.mem_append_left _ (List.mem_append_left _ (List.mem_append_left _ (List.mem_append_left _ (List.mem_append_right _ h))))))
theorem inX3 : ∀ w ∈ wsX30, w ∈ lw_tbl := fun w h => wsL_law_in w (inlX3 w h)
theorem inlX4 : ∀ w ∈ wsX40, w ∈ wsL_law := fun _ h => List.mem_append_left _ (List.mem_append_left _ (List.mem_append_left _ (List.mem_append_left _ (List.mem_append_left _ (List.mem_append_right _ h)))))
theorem inX4 : ∀ w ∈ wsX40, w ∈ lw_tbl := fun w h => wsL_law_in w (inlX4 w h)
theorem inlX5 : ∀ w ∈ wsX50, w ∈ wsL_law := fun _ h => List.mem_append_left _ (List.mem_append_right _ h)
theorem inX5 : ∀ w ∈ wsX50, w ∈ lw_tbl := fun w h => wsL_law_in w (inlX5 w h)
theorem inlX6 : ∀ w ∈ wsX60, w ∈ wsL_law := fun _ h => List.mem_append_left _ (List.mem_append_left _ (List.mem_append_left _ (List.mem_append_left _ (List.mem_append_left _ (List.mem_append_left _ (List.mem_append_left _ (List.mem_append_left _ (List.mem_append_right _ h))))))))
theorem inX6 : ∀ w ∈ wsX60, w ∈ lw_tbl := fun w h => wsL_law_in w (inlX6 w h)
theorem inlX7 : ∀ w ∈ wsX70, w ∈ wsL_law := fun _ h => List.mem_append_left _ (List.mem_append_left _ (List.mem_append_left _ (List.mem_append_left _ (List.mem_append_right _ h))))
theorem inX7 : ∀ w ∈ wsX70, w ∈ lw_tbl := fun w h => wsL_law_in w (inlX7 w h)
theorem inlX8 : ∀ w ∈ wsX80, w ∈ wsL_law := fun _ h => List.mem_append_left _ (List.mem_append_left _ (List.mem_append_left _ (List.mem_append_left _ (List.mem_append_left _ (List.mem_append_left _ (List.mem_append_left _ (List.mem_append_right _ h)))))))
theorem inX8 : ∀ w ∈ wsX80, w ∈ lw_tbl := fun w h => wsL_law_in w (inlX8 w h)
theorem inlX9 : ∀ w ∈ wsX90, w ∈ wsL_law := fun _ h => List.mem_append_left _ (List.mem_append_left _ (List.mem_append_left _ (List.mem_append_left _ (List.mem_append_left _ (List.mem_append_left _ (List.mem_append_left _ (List.mem_append_left _ (List.mem_append_left _ (List.mem_append_left _ (List.mem_append_left _ (List.mem_append_right _ h)))))))))))
theorem inX9 : ∀ w ∈ wsX90, w ∈ lw_tbl := fun w h => wsL_law_in w (inlX9 w h)
theorem inlX10 : ∀ w ∈ wsX100, w ∈ wsL_law := fun _ h => List.mem_append_left _ (List.mem_append_left _ (List.mem_append_left _ (List.mem_append_left _ (List.mem_append_left _ (List.mem_append_left _ (List.mem_append_left _ (List.mem_append_left _ (List.mem_append_left _ (List.mem_append_left _ (List.mem_append_right _ h))))))))))
theorem inX10 : ∀ w ∈ wsX100, w ∈ lw_tbl := fun w h => wsL_law_in w (inlX10 w h)
theorem inJ6 : ∀ w ∈ wsJ60, w ∈ lw_tbl := by decide +kernel
theorem inJ9 : ∀ w ∈ wsJ90, w ∈ lw_tbl := by decide +kernel
abbrev vwCl : List vw_C := [(RX0, TX0, 4), (RX1, TX1, 3), (RX2, TX2, 4), (RX3, TX3, 4), (RX4, TX4, 4), (RX5, TX5, 2), (RX6, TX6, 11), (RX7, TX7, 6), (RX8, TX8, 5), (RX9, TX9, 8), (RX10, TX10, 41)]
end
section
theorem dJ6_bitCount_0f7a4_0 : decode cJ6_bitCount_0f7a4 0 = .ok (.iload_n 0, 1) := by decide +kernel
theorem dJ6_bitCount_0f7a4_1 : decode cJ6_bitCount_0f7a4 1 = .ok (.iload_n 0, 1) := by decide +kernel
theorem dJ6_bitCount_0f7a4_2 : decode cJ6_bitCount_0f7a4 2 = .ok (.iconst 1, 1) := by decide +kernel
theorem dJ6_bitCount_0f7a4_3 : decode cJ6_bitCount_0f7a4 3 = .ok (.iushr, 1) := by decide +kernel
theorem dJ6_bitCount_0f7a4_4 : decode cJ6_bitCount_0f7a4 4 = .ok (.ldc_w 265, 3) := by decide +kernel
theorem dJ6_bitCount_0f7a4_7 : decode cJ6_bitCount_0f7a4 7 = .ok (.iand, 1) := by decide +kernel
theorem dJ6_bitCount_0f7a4_8 : decode cJ6_bitCount_0f7a4 8 = .ok (.isub, 1) := by decide +kernel
theorem dJ6_bitCount_0f7a4_9 : decode cJ6_bitCount_0f7a4 9 = .ok (.istore_n 0, 1) := by decide +kernel
theorem dJ6_bitCount_0f7a4_10 : decode cJ6_bitCount_0f7a4 10 = .ok (.iload_n 0, 1) := by decide +kernel
theorem dJ6_bitCount_0f7a4_11 : decode cJ6_bitCount_0f7a4 11 = .ok (.ldc_w 266, 3) := by decide +kernel
theorem dJ6_bitCount_0f7a4_14 : decode cJ6_bitCount_0f7a4 14 = .ok (.iand, 1) := by decide +kernel
theorem dJ6_bitCount_0f7a4_15 : decode cJ6_bitCount_0f7a4 15 = .ok (.iload_n 0, 1) := by decide +kernel
theorem dJ6_bitCount_0f7a4_16 : decode cJ6_bitCount_0f7a4 16 = .ok (.iconst 2, 1) := by decide +kernel
theorem dJ6_bitCount_0f7a4_17 : decode cJ6_bitCount_0f7a4 17 = .ok (.iushr, 1) := by decide +kernel
theorem dJ6_bitCount_0f7a4_18 : decode cJ6_bitCount_0f7a4 18 = .ok (.ldc_w 266, 3) := by decide +kernel
theorem dJ6_bitCount_0f7a4_21 : decode cJ6_bitCount_0f7a4 21 = .ok (.iand, 1) := by decide +kernel
theorem dJ6_bitCount_0f7a4_22 : decode cJ6_bitCount_0f7a4 22 = .ok (.iadd, 1) := by decide +kernel
theorem dJ6_bitCount_0f7a4_23 : decode cJ6_bitCount_0f7a4 23 = .ok (.istore_n 0, 1) := by decide +kernel
theorem dJ6_bitCount_0f7a4_24 : decode cJ6_bitCount_0f7a4 24 = .ok (.iload_n 0, 1) := by decide +kernel
theorem dJ6_bitCount_0f7a4_25 : decode cJ6_bitCount_0f7a4 25 = .ok (.iload_n 0, 1) := by decide +kernel
theorem dJ6_bitCount_0f7a4_26 : decode cJ6_bitCount_0f7a4 26 = .ok (.iconst 4, 1) := by decide +kernel
theorem dJ6_bitCount_0f7a4_27 : decode cJ6_bitCount_0f7a4 27 = .ok (.iushr, 1) := by decide +kernel
theorem dJ6_bitCount_0f7a4_28 : decode cJ6_bitCount_0f7a4 28 = .ok (.iadd, 1) := by decide +kernel
theorem dJ6_bitCount_0f7a4_29 : decode cJ6_bitCount_0f7a4 29 = .ok (.ldc_w 267, 3) := by decide +kernel
theorem dJ6_bitCount_0f7a4_32 : decode cJ6_bitCount_0f7a4 32 = .ok (.iand, 1) := by decide +kernel
theorem dJ6_bitCount_0f7a4_33 : decode cJ6_bitCount_0f7a4 33 = .ok (.istore_n 0, 1) := by decide +kernel
theorem dJ6_bitCount_0f7a4_34 : decode cJ6_bitCount_0f7a4 34 = .ok (.iload_n 0, 1) := by decide +kernel
theorem dJ6_bitCount_0f7a4_35 : decode cJ6_bitCount_0f7a4 35 = .ok (.iload_n 0, 1) := by decide +kernel
theorem dJ6_bitCount_0f7a4_36 : decode cJ6_bitCount_0f7a4 36 = .ok (.bipush 8, 2) := by decide +kernel
theorem dJ6_bitCount_0f7a4_38 : decode cJ6_bitCount_0f7a4 38 = .ok (.iushr, 1) := by decide +kernel
theorem dJ6_bitCount_0f7a4_39 : decode cJ6_bitCount_0f7a4 39 = .ok (.iadd, 1) := by decide +kernel
theorem dJ6_bitCount_0f7a4_40 : decode cJ6_bitCount_0f7a4 40 = .ok (.istore_n 0, 1) := by decide +kernel
theorem dJ6_bitCount_0f7a4_41 : decode cJ6_bitCount_0f7a4 41 = .ok (.iload_n 0, 1) := by decide +kernel
theorem dJ6_bitCount_0f7a4_42 : decode cJ6_bitCount_0f7a4 42 = .ok (.iload_n 0, 1) := by decide +kernel
theorem dJ6_bitCount_0f7a4_43 : decode cJ6_bitCount_0f7a4 43 = .ok (.bipush 16, 2) := by decide +kernel
theorem dJ6_bitCount_0f7a4_45 : decode cJ6_bitCount_0f7a4 45 = .ok (.iushr, 1) := by decide +kernel
theorem dJ6_bitCount_0f7a4_46 : decode cJ6_bitCount_0f7a4 46 = .ok (.iadd, 1) := by decide +kernel
theorem dJ6_bitCount_0f7a4_47 : decode cJ6_bitCount_0f7a4 47 = .ok (.istore_n 0, 1) := by decide +kernel
theorem dJ6_bitCount_0f7a4_48 : decode cJ6_bitCount_0f7a4 48 = .ok (.iload_n 0, 1) := by decide +kernel
theorem dJ6_bitCount_0f7a4_49 : decode cJ6_bitCount_0f7a4 49 = .ok (.bipush 63, 2) := by decide +kernel
theorem dJ6_bitCount_0f7a4_51 : decode cJ6_bitCount_0f7a4 51 = .ok (.iand, 1) := by decide +kernel
theorem dJ6_bitCount_0f7a4_52 : decode cJ6_bitCount_0f7a4 52 = .ok (.ireturn, 1) := by decide +kernel
theorem dJ9_max_7cf53_0 : decode cJ9_max_7cf53 0 = .ok (.iload_n 0, 1) := by decide +kernel
theorem dJ9_max_7cf53_1 : decode cJ9_max_7cf53 1 = .ok (.iload_n 1, 1) := by decide +kernel
theorem dJ9_max_7cf53_2 : decode cJ9_max_7cf53 2 = .ok (.if_icmp .lt 7, 3) := by decide +kernel
theorem dJ9_max_7cf53_5 : decode cJ9_max_7cf53 5 = .ok (.iload_n 0, 1) := by decide +kernel
theorem dJ9_max_7cf53_6 : decode cJ9_max_7cf53 6 = .ok (.goto 4, 3) := by decide +kernel
theorem dJ9_max_7cf53_9 : decode cJ9_max_7cf53 9 = .ok (.iload_n 1, 1) := by decide +kernel
theorem dJ9_max_7cf53_10 : decode cJ9_max_7cf53 10 = .ok (.ireturn, 1) := by decide +kernel
theorem dL_law_0 : decode cL_law 0 = .ok (.new 7, 3) := by decide +kernel
theorem dL_law_3 : decode cL_law 3 = .ok (.dup, 1) := by decide +kernel
theorem dL_law_4 : decode cL_law 4 = .ok (.invokespecial 9, 3) := by decide +kernel
theorem dL_law_7 : decode cL_law 7 = .ok (.astore_n 1, 1) := by decide +kernel
theorem dL_law_8 : decode cL_law 8 = .ok (.new 10, 3) := by decide +kernel
theorem dL_law_11 : decode cL_law 11 = .ok (.dup, 1) := by decide +kernel
theorem dL_law_12 : decode cL_law 12 = .ok (.invokespecial 12, 3) := by decide +kernel
theorem dL_law_15 : decode cL_law 15 = .ok (.astore_n 2, 1) := by decide +kernel
theorem dL_law_16 : decode cL_law 16 = .ok (.iconst 0, 1) := by decide +kernel
theorem dL_law_17 : decode cL_law 17 = .ok (.istore_n 3, 1) := by decide +kernel
theorem dL_law_18 : decode cL_law 18 = .ok (.iload_n 3, 1) := by decide +kernel
theorem dL_law_19 : decode cL_law 19 = .ok (.aload_n 0, 1) := by decide +kernel
theorem dL_law_20 : decode cL_law 20 = .ok (.arraylength, 1) := by decide +kernel
theorem dL_law_21 : decode cL_law 21 = .ok (.bipush 7, 2) := by decide +kernel
theorem dL_law_23 : decode cL_law 23 = .ok (.isub, 1) := by decide +kernel
theorem dL_law_24 : decode cL_law 24 = .ok (.if_icmp .gt 1030, 3) := by decide +kernel
theorem dL_law_27 : decode cL_law 27 = .ok (.aload_n 0, 1) := by decide +kernel
theorem dL_law_28 : decode cL_law 28 = .ok (.iload_n 3, 1) := by decide +kernel
theorem dL_law_29 : decode cL_law 29 = .ok (.iaload, 1) := by decide +kernel
theorem dL_law_30 : decode cL_law 30 = .ok (.bipush 31, 2) := by decide +kernel
theorem dL_law_32 : decode cL_law 32 = .ok (.iand, 1) := by decide +kernel
theorem dL_law_33 : decode cL_law 33 = .ok (.tableswitch 1015 0 27 #[127, 170, 193, 216, 307, 340, 373, 406, 439, 472, 505, 528, 541, 564, 597, 620, 633, 656, 705, 738, 761, 784, 797, 820, 863, 896, 939, 992], 127) := by decide +kernel
theorem dL_law_160 : decode cL_law 160 = .ok (.aload_n 1, 1) := by decide +kernel
theorem dL_law_161 : decode cL_law 161 = .ok (.aload_n 0, 1) := by decide +kernel
theorem dL_law_162 : decode cL_law 162 = .ok (.iload_n 3, 1) := by decide +kernel
theorem dL_law_163 : decode cL_law 163 = .ok (.iconst 1, 1) := by decide +kernel
theorem dL_law_164 : decode cL_law 164 = .ok (.iadd, 1) := by decide +kernel
theorem dL_law_165 : decode cL_law 165 = .ok (.iaload, 1) := by decide +kernel
theorem dL_law_166 : decode cL_law 166 = .ok (.aload_n 0, 1) := by decide +kernel
theorem dL_law_167 : decode cL_law 167 = .ok (.iload_n 3, 1) := by decide +kernel
theorem dL_law_168 : decode cL_law 168 = .ok (.iconst 2, 1) := by decide +kernel
theorem dL_law_169 : decode cL_law 169 = .ok (.iadd, 1) := by decide +kernel
theorem dL_law_170 : decode cL_law 170 = .ok (.iaload, 1) := by decide +kernel
theorem dL_law_171 : decode cL_law 171 = .ok (.aload_n 0, 1) := by decide +kernel
theorem dL_law_172 : decode cL_law 172 = .ok (.iload_n 3, 1) := by decide +kernel
theorem dL_law_173 : decode cL_law 173 = .ok (.iconst 3, 1) := by decide +kernel
theorem dL_law_174 : decode cL_law 174 = .ok (.iadd, 1) := by decide +kernel
theorem dL_law_175 : decode cL_law 175 = .ok (.iaload, 1) := by decide +kernel
theorem dL_law_176 : decode cL_law 176 = .ok (.invokevirtual 13, 3) := by decide +kernel
theorem dL_law_179 : decode cL_law 179 = .ok (.aload_n 2, 1) := by decide +kernel
theorem dL_law_180 : decode cL_law 180 = .ok (.aload_n 0, 1) := by decide +kernel
theorem dL_law_181 : decode cL_law 181 = .ok (.iload_n 3, 1) := by decide +kernel
theorem dL_law_182 : decode cL_law 182 = .ok (.iconst 1, 1) := by decide +kernel
theorem dL_law_183 : decode cL_law 183 = .ok (.iadd, 1) := by decide +kernel
theorem dL_law_184 : decode cL_law 184 = .ok (.iaload, 1) := by decide +kernel
theorem dL_law_185 : decode cL_law 185 = .ok (.aload_n 0, 1) := by decide +kernel
theorem dL_law_186 : decode cL_law 186 = .ok (.iload_n 3, 1) := by decide +kernel
theorem dL_law_187 : decode cL_law 187 = .ok (.iconst 2, 1) := by decide +kernel
theorem dL_law_188 : decode cL_law 188 = .ok (.iadd, 1) := by decide +kernel
theorem dL_law_189 : decode cL_law 189 = .ok (.iaload, 1) := by decide +kernel
theorem dL_law_190 : decode cL_law 190 = .ok (.aload_n 0, 1) := by decide +kernel
theorem dL_law_191 : decode cL_law 191 = .ok (.iload_n 3, 1) := by decide +kernel
theorem dL_law_192 : decode cL_law 192 = .ok (.iconst 3, 1) := by decide +kernel
theorem dL_law_193 : decode cL_law 193 = .ok (.iadd, 1) := by decide +kernel
theorem dL_law_194 : decode cL_law 194 = .ok (.iaload, 1) := by decide +kernel
theorem dL_law_195 : decode cL_law 195 = .ok (.invokevirtual 17, 3) := by decide +kernel
theorem dL_law_198 : decode cL_law 198 = .ok (.if_icmp .eq 850, 3) := by decide +kernel
theorem dL_law_201 : decode cL_law 201 = .ok (.iconst 0, 1) := by decide +kernel
theorem dL_law_202 : decode cL_law 202 = .ok (.ireturn, 1) := by decide +kernel
theorem dL_law_203 : decode cL_law 203 = .ok (.aload_n 1, 1) := by decide +kernel
theorem dL_law_204 : decode cL_law 204 = .ok (.aload_n 0, 1) := by decide +kernel
theorem dL_law_205 : decode cL_law 205 = .ok (.iload_n 3, 1) := by decide +kernel
theorem dL_law_206 : decode cL_law 206 = .ok (.iconst 1, 1) := by decide +kernel
theorem dL_law_207 : decode cL_law 207 = .ok (.iadd, 1) := by decide +kernel
theorem dL_law_208 : decode cL_law 208 = .ok (.iaload, 1) := by decide +kernel
theorem dL_law_209 : decode cL_law 209 = .ok (.invokevirtual 18, 3) := by decide +kernel
theorem dL_law_212 : decode cL_law 212 = .ok (.aload_n 2, 1) := by decide +kernel
theorem dL_law_213 : decode cL_law 213 = .ok (.aload_n 0, 1) := by decide +kernel
theorem dL_law_214 : decode cL_law 214 = .ok (.iload_n 3, 1) := by decide +kernel
theorem dL_law_215 : decode cL_law 215 = .ok (.iconst 1, 1) := by decide +kernel
theorem dL_law_216 : decode cL_law 216 = .ok (.iadd, 1) := by decide +kernel
theorem dL_law_217 : decode cL_law 217 = .ok (.iaload, 1) := by decide +kernel
theorem dL_law_218 : decode cL_law 218 = .ok (.invokevirtual 22, 3) := by decide +kernel
theorem dL_law_221 : decode cL_law 221 = .ok (.if_icmp .eq 827, 3) := by decide +kernel
theorem dL_law_224 : decode cL_law 224 = .ok (.iconst 0, 1) := by decide +kernel
theorem dL_law_225 : decode cL_law 225 = .ok (.ireturn, 1) := by decide +kernel
theorem dL_law_226 : decode cL_law 226 = .ok (.aload_n 1, 1) := by decide +kernel
theorem dL_law_227 : decode cL_law 227 = .ok (.aload_n 0, 1) := by decide +kernel
theorem dL_law_228 : decode cL_law 228 = .ok (.iload_n 3, 1) := by decide +kernel
theorem dL_law_229 : decode cL_law 229 = .ok (.iconst 1, 1) := by decide +kernel
theorem dL_law_230 : decode cL_law 230 = .ok (.iadd, 1) := by decide +kernel
theorem dL_law_231 : decode cL_law 231 = .ok (.iaload, 1) := by decide +kernel
theorem dL_law_232 : decode cL_law 232 = .ok (.invokevirtual 23, 3) := by decide +kernel
theorem dL_law_235 : decode cL_law 235 = .ok (.aload_n 2, 1) := by decide +kernel
theorem dL_law_236 : decode cL_law 236 = .ok (.aload_n 0, 1) := by decide +kernel
theorem dL_law_237 : decode cL_law 237 = .ok (.iload_n 3, 1) := by decide +kernel
theorem dL_law_238 : decode cL_law 238 = .ok (.iconst 1, 1) := by decide +kernel
theorem dL_law_239 : decode cL_law 239 = .ok (.iadd, 1) := by decide +kernel
theorem dL_law_240 : decode cL_law 240 = .ok (.iaload, 1) := by decide +kernel
theorem dL_law_241 : decode cL_law 241 = .ok (.invokevirtual 26, 3) := by decide +kernel
theorem dL_law_244 : decode cL_law 244 = .ok (.if_icmp .eq 804, 3) := by decide +kernel
theorem dL_law_247 : decode cL_law 247 = .ok (.iconst 0, 1) := by decide +kernel
theorem dL_law_248 : decode cL_law 248 = .ok (.ireturn, 1) := by decide +kernel
theorem dL_law_249 : decode cL_law 249 = .ok (.aload_n 1, 1) := by decide +kernel
theorem dL_law_250 : decode cL_law 250 = .ok (.aload_n 0, 1) := by decide +kernel
theorem dL_law_251 : decode cL_law 251 = .ok (.iload_n 3, 1) := by decide +kernel
theorem dL_law_252 : decode cL_law 252 = .ok (.iconst 1, 1) := by decide +kernel
theorem dL_law_253 : decode cL_law 253 = .ok (.iadd, 1) := by decide +kernel
theorem dL_law_254 : decode cL_law 254 = .ok (.iaload, 1) := by decide +kernel
theorem dL_law_255 : decode cL_law 255 = .ok (.aload_n 0, 1) := by decide +kernel
theorem dL_law_256 : decode cL_law 256 = .ok (.iload_n 3, 1) := by decide +kernel
theorem dL_law_257 : decode cL_law 257 = .ok (.iconst 2, 1) := by decide +kernel
theorem dL_law_258 : decode cL_law 258 = .ok (.iadd, 1) := by decide +kernel
theorem dL_law_259 : decode cL_law 259 = .ok (.iaload, 1) := by decide +kernel
theorem dL_law_260 : decode cL_law 260 = .ok (.aload_n 0, 1) := by decide +kernel
theorem dL_law_261 : decode cL_law 261 = .ok (.iload_n 3, 1) := by decide +kernel
theorem dL_law_262 : decode cL_law 262 = .ok (.iconst 3, 1) := by decide +kernel
theorem dL_law_263 : decode cL_law 263 = .ok (.iadd, 1) := by decide +kernel
theorem dL_law_264 : decode cL_law 264 = .ok (.iaload, 1) := by decide +kernel
theorem dL_law_265 : decode cL_law 265 = .ok (.aload_n 0, 1) := by decide +kernel
theorem dL_law_266 : decode cL_law 266 = .ok (.iload_n 3, 1) := by decide +kernel
theorem dL_law_267 : decode cL_law 267 = .ok (.iconst 4, 1) := by decide +kernel
theorem dL_law_268 : decode cL_law 268 = .ok (.iadd, 1) := by decide +kernel
theorem dL_law_269 : decode cL_law 269 = .ok (.iaload, 1) := by decide +kernel
theorem dL_law_270 : decode cL_law 270 = .ok (.aload_n 0, 1) := by decide +kernel
theorem dL_law_271 : decode cL_law 271 = .ok (.iload_n 3, 1) := by decide +kernel
theorem dL_law_272 : decode cL_law 272 = .ok (.iconst 5, 1) := by decide +kernel
theorem dL_law_273 : decode cL_law 273 = .ok (.iadd, 1) := by decide +kernel
theorem dL_law_274 : decode cL_law 274 = .ok (.iaload, 1) := by decide +kernel
theorem dL_law_275 : decode cL_law 275 = .ok (.aload_n 0, 1) := by decide +kernel
theorem dL_law_276 : decode cL_law 276 = .ok (.iload_n 3, 1) := by decide +kernel
theorem dL_law_277 : decode cL_law 277 = .ok (.bipush 6, 2) := by decide +kernel
theorem dL_law_279 : decode cL_law 279 = .ok (.iadd, 1) := by decide +kernel
theorem dL_law_280 : decode cL_law 280 = .ok (.iaload, 1) := by decide +kernel
theorem dL_law_281 : decode cL_law 281 = .ok (.ifCond .eq 7, 3) := by decide +kernel
theorem dL_law_284 : decode cL_law 284 = .ok (.iconst 1, 1) := by decide +kernel
theorem dL_law_285 : decode cL_law 285 = .ok (.goto 4, 3) := by decide +kernel
theorem dL_law_288 : decode cL_law 288 = .ok (.iconst 0, 1) := by decide +kernel
theorem dL_law_289 : decode cL_law 289 = .ok (.invokevirtual 27, 3) := by decide +kernel
theorem dL_law_292 : decode cL_law 292 = .ok (.aload_n 2, 1) := by decide +kernel
theorem dL_law_293 : decode cL_law 293 = .ok (.aload_n 0, 1) := by decide +kernel
theorem dL_law_294 : decode cL_law 294 = .ok (.iload_n 3, 1) := by decide +kernel
theorem dL_law_295 : decode cL_law 295 = .ok (.iconst 1, 1) := by decide +kernel
theorem dL_law_296 : decode cL_law 296 = .ok (.iadd, 1) := by decide +kernel
theorem dL_law_297 : decode cL_law 297 = .ok (.iaload, 1) := by decide +kernel
theorem dL_law_298 : decode cL_law 298 = .ok (.aload_n 0, 1) := by decide +kernel
theorem dL_law_299 : decode cL_law 299 = .ok (.iload_n 3, 1) := by decide +kernel
theorem dL_law_300 : decode cL_law 300 = .ok (.iconst 2, 1) := by decide +kernel
theorem dL_law_301 : decode cL_law 301 = .ok (.iadd, 1) := by decide +kernel
theorem dL_law_302 : decode cL_law 302 = .ok (.iaload, 1) := by decide +kernel
theorem dL_law_303 : decode cL_law 303 = .ok (.aload_n 0, 1) := by decide +kernel
theorem dL_law_304 : decode cL_law 304 = .ok (.iload_n 3, 1) := by decide +kernel
theorem dL_law_305 : decode cL_law 305 = .ok (.iconst 3, 1) := by decide +kernel
theorem dL_law_306 : decode cL_law 306 = .ok (.iadd, 1) := by decide +kernel
theorem dL_law_307 : decode cL_law 307 = .ok (.iaload, 1) := by decide +kernel
theorem dL_law_308 : decode cL_law 308 = .ok (.aload_n 0, 1) := by decide +kernel
theorem dL_law_309 : decode cL_law 309 = .ok (.iload_n 3, 1) := by decide +kernel
theorem dL_law_310 : decode cL_law 310 = .ok (.iconst 4, 1) := by decide +kernel
theorem dL_law_311 : decode cL_law 311 = .ok (.iadd, 1) := by decide +kernel
theorem dL_law_312 : decode cL_law 312 = .ok (.iaload, 1) := by decide +kernel
theorem dL_law_313 : decode cL_law 313 = .ok (.aload_n 0, 1) := by decide +kernel
theorem dL_law_314 : decode cL_law 314 = .ok (.iload_n 3, 1) := by decide +kernel
theorem dL_law_315 : decode cL_law 315 = .ok (.iconst 5, 1) := by decide +kernel
theorem dL_law_316 : decode cL_law 316 = .ok (.iadd, 1) := by decide +kernel
theorem dL_law_317 : decode cL_law 317 = .ok (.iaload, 1) := by decide +kernel
theorem dL_law_318 : decode cL_law 318 = .ok (.aload_n 0, 1) := by decide +kernel
theorem dL_law_319 : decode cL_law 319 = .ok (.iload_n 3, 1) := by decide +kernel
theorem dL_law_320 : decode cL_law 320 = .ok (.bipush 6, 2) := by decide +kernel
theorem dL_law_322 : decode cL_law 322 = .ok (.iadd, 1) := by decide +kernel
theorem dL_law_323 : decode cL_law 323 = .ok (.iaload, 1) := by decide +kernel
theorem dL_law_324 : decode cL_law 324 = .ok (.ifCond .eq 7, 3) := by decide +kernel
theorem dL_law_327 : decode cL_law 327 = .ok (.iconst 1, 1) := by decide +kernel
theorem dL_law_328 : decode cL_law 328 = .ok (.goto 4, 3) := by decide +kernel
theorem dL_law_331 : decode cL_law 331 = .ok (.iconst 0, 1) := by decide +kernel
theorem dL_law_332 : decode cL_law 332 = .ok (.invokevirtual 31, 3) := by decide +kernel
theorem dL_law_335 : decode cL_law 335 = .ok (.if_icmp .eq 713, 3) := by decide +kernel
theorem dL_law_338 : decode cL_law 338 = .ok (.iconst 0, 1) := by decide +kernel
theorem dL_law_339 : decode cL_law 339 = .ok (.ireturn, 1) := by decide +kernel
theorem dL_law_340 : decode cL_law 340 = .ok (.aload_n 1, 1) := by decide +kernel
theorem dL_law_341 : decode cL_law 341 = .ok (.aload_n 0, 1) := by decide +kernel
theorem dL_law_342 : decode cL_law 342 = .ok (.iload_n 3, 1) := by decide +kernel
theorem dL_law_343 : decode cL_law 343 = .ok (.iconst 1, 1) := by decide +kernel
theorem dL_law_344 : decode cL_law 344 = .ok (.iadd, 1) := by decide +kernel
theorem dL_law_345 : decode cL_law 345 = .ok (.iaload, 1) := by decide +kernel
theorem dL_law_346 : decode cL_law 346 = .ok (.aload_n 0, 1) := by decide +kernel
theorem dL_law_347 : decode cL_law 347 = .ok (.iload_n 3, 1) := by decide +kernel
theorem dL_law_348 : decode cL_law 348 = .ok (.iconst 2, 1) := by decide +kernel
theorem dL_law_349 : decode cL_law 349 = .ok (.iadd, 1) := by decide +kernel
theorem dL_law_350 : decode cL_law 350 = .ok (.iaload, 1) := by decide +kernel
theorem dL_law_351 : decode cL_law 351 = .ok (.invokevirtual 32, 3) := by decide +kernel
theorem dL_law_354 : decode cL_law 354 = .ok (.aload_n 2, 1) := by decide +kernel
theorem dL_law_355 : decode cL_law 355 = .ok (.aload_n 0, 1) := by decide +kernel
theorem dL_law_356 : decode cL_law 356 = .ok (.iload_n 3, 1) := by decide +kernel
theorem dL_law_357 : decode cL_law 357 = .ok (.iconst 1, 1) := by decide +kernel
theorem dL_law_358 : decode cL_law 358 = .ok (.iadd, 1) := by decide +kernel
theorem dL_law_359 : decode cL_law 359 = .ok (.iaload, 1) := by decide +kernel
theorem dL_law_360 : decode cL_law 360 = .ok (.aload_n 0, 1) := by decide +kernel
theorem dL_law_361 : decode cL_law 361 = .ok (.iload_n 3, 1) := by decide +kernel
theorem dL_law_362 : decode cL_law 362 = .ok (.iconst 2, 1) := by decide +kernel
theorem dL_law_363 : decode cL_law 363 = .ok (.iadd, 1) := by decide +kernel
theorem dL_law_364 : decode cL_law 364 = .ok (.iaload, 1) := by decide +kernel
theorem dL_law_365 : decode cL_law 365 = .ok (.invokevirtual 36, 3) := by decide +kernel
theorem dL_law_368 : decode cL_law 368 = .ok (.if_icmp .eq 680, 3) := by decide +kernel
theorem dL_law_371 : decode cL_law 371 = .ok (.iconst 0, 1) := by decide +kernel
theorem dL_law_372 : decode cL_law 372 = .ok (.ireturn, 1) := by decide +kernel
theorem dL_law_373 : decode cL_law 373 = .ok (.aload_n 1, 1) := by decide +kernel
theorem dL_law_374 : decode cL_law 374 = .ok (.aload_n 0, 1) := by decide +kernel
theorem dL_law_375 : decode cL_law 375 = .ok (.iload_n 3, 1) := by decide +kernel
theorem dL_law_376 : decode cL_law 376 = .ok (.iconst 1, 1) := by decide +kernel
theorem dL_law_377 : decode cL_law 377 = .ok (.iadd, 1) := by decide +kernel
theorem dL_law_378 : decode cL_law 378 = .ok (.iaload, 1) := by decide +kernel
theorem dL_law_379 : decode cL_law 379 = .ok (.aload_n 0, 1) := by decide +kernel
theorem dL_law_380 : decode cL_law 380 = .ok (.iload_n 3, 1) := by decide +kernel
theorem dL_law_381 : decode cL_law 381 = .ok (.iconst 2, 1) := by decide +kernel
theorem dL_law_382 : decode cL_law 382 = .ok (.iadd, 1) := by decide +kernel
theorem dL_law_383 : decode cL_law 383 = .ok (.iaload, 1) := by decide +kernel
theorem dL_law_384 : decode cL_law 384 = .ok (.invokevirtual 37, 3) := by decide +kernel
theorem dL_law_387 : decode cL_law 387 = .ok (.aload_n 2, 1) := by decide +kernel
theorem dL_law_388 : decode cL_law 388 = .ok (.aload_n 0, 1) := by decide +kernel
theorem dL_law_389 : decode cL_law 389 = .ok (.iload_n 3, 1) := by decide +kernel
theorem dL_law_390 : decode cL_law 390 = .ok (.iconst 1, 1) := by decide +kernel
theorem dL_law_391 : decode cL_law 391 = .ok (.iadd, 1) := by decide +kernel
theorem dL_law_392 : decode cL_law 392 = .ok (.iaload, 1) := by decide +kernel
theorem dL_law_393 : decode cL_law 393 = .ok (.aload_n 0, 1) := by decide +kernel
theorem dL_law_394 : decode cL_law 394 = .ok (.iload_n 3, 1) := by decide +kernel
theorem dL_law_395 : decode cL_law 395 = .ok (.iconst 2, 1) := by decide +kernel
theorem dL_law_396 : decode cL_law 396 = .ok (.iadd, 1) := by decide +kernel
theorem dL_law_397 : decode cL_law 397 = .ok (.iaload, 1) := by decide +kernel
theorem dL_law_398 : decode cL_law 398 = .ok (.invokevirtual 40, 3) := by decide +kernel
theorem dL_law_401 : decode cL_law 401 = .ok (.if_icmp .eq 647, 3) := by decide +kernel
theorem dL_law_404 : decode cL_law 404 = .ok (.iconst 0, 1) := by decide +kernel
theorem dL_law_405 : decode cL_law 405 = .ok (.ireturn, 1) := by decide +kernel
theorem dL_law_406 : decode cL_law 406 = .ok (.aload_n 1, 1) := by decide +kernel
theorem dL_law_407 : decode cL_law 407 = .ok (.aload_n 0, 1) := by decide +kernel
theorem dL_law_408 : decode cL_law 408 = .ok (.iload_n 3, 1) := by decide +kernel
theorem dL_law_409 : decode cL_law 409 = .ok (.iconst 1, 1) := by decide +kernel
theorem dL_law_410 : decode cL_law 410 = .ok (.iadd, 1) := by decide +kernel
theorem dL_law_411 : decode cL_law 411 = .ok (.iaload, 1) := by decide +kernel
theorem dL_law_412 : decode cL_law 412 = .ok (.aload_n 0, 1) := by decide +kernel
theorem dL_law_413 : decode cL_law 413 = .ok (.iload_n 3, 1) := by decide +kernel
theorem dL_law_414 : decode cL_law 414 = .ok (.iconst 2, 1) := by decide +kernel
theorem dL_law_415 : decode cL_law 415 = .ok (.iadd, 1) := by decide +kernel
theorem dL_law_416 : decode cL_law 416 = .ok (.iaload, 1) := by decide +kernel
theorem dL_law_417 : decode cL_law 417 = .ok (.invokevirtual 41, 3) := by decide +kernel
theorem dL_law_420 : decode cL_law 420 = .ok (.aload_n 2, 1) := by decide +kernel
theorem dL_law_421 : decode cL_law 421 = .ok (.aload_n 0, 1) := by decide +kernel
theorem dL_law_422 : decode cL_law 422 = .ok (.iload_n 3, 1) := by decide +kernel
theorem dL_law_423 : decode cL_law 423 = .ok (.iconst 1, 1) := by decide +kernel
theorem dL_law_424 : decode cL_law 424 = .ok (.iadd, 1) := by decide +kernel
theorem dL_law_425 : decode cL_law 425 = .ok (.iaload, 1) := by decide +kernel
theorem dL_law_426 : decode cL_law 426 = .ok (.aload_n 0, 1) := by decide +kernel
theorem dL_law_427 : decode cL_law 427 = .ok (.iload_n 3, 1) := by decide +kernel
theorem dL_law_428 : decode cL_law 428 = .ok (.iconst 2, 1) := by decide +kernel
theorem dL_law_429 : decode cL_law 429 = .ok (.iadd, 1) := by decide +kernel
theorem dL_law_430 : decode cL_law 430 = .ok (.iaload, 1) := by decide +kernel
theorem dL_law_431 : decode cL_law 431 = .ok (.invokevirtual 44, 3) := by decide +kernel
theorem dL_law_434 : decode cL_law 434 = .ok (.if_icmp .eq 614, 3) := by decide +kernel
theorem dL_law_437 : decode cL_law 437 = .ok (.iconst 0, 1) := by decide +kernel
theorem dL_law_438 : decode cL_law 438 = .ok (.ireturn, 1) := by decide +kernel
theorem dL_law_439 : decode cL_law 439 = .ok (.aload_n 1, 1) := by decide +kernel
theorem dL_law_440 : decode cL_law 440 = .ok (.aload_n 0, 1) := by decide +kernel
theorem dL_law_441 : decode cL_law 441 = .ok (.iload_n 3, 1) := by decide +kernel
theorem dL_law_442 : decode cL_law 442 = .ok (.iconst 1, 1) := by decide +kernel
theorem dL_law_443 : decode cL_law 443 = .ok (.iadd, 1) := by decide +kernel
theorem dL_law_444 : decode cL_law 444 = .ok (.iaload, 1) := by decide +kernel
theorem dL_law_445 : decode cL_law 445 = .ok (.aload_n 0, 1) := by decide +kernel
theorem dL_law_446 : decode cL_law 446 = .ok (.iload_n 3, 1) := by decide +kernel
theorem dL_law_447 : decode cL_law 447 = .ok (.iconst 2, 1) := by decide +kernel
theorem dL_law_448 : decode cL_law 448 = .ok (.iadd, 1) := by decide +kernel
theorem dL_law_449 : decode cL_law 449 = .ok (.iaload, 1) := by decide +kernel
theorem dL_law_450 : decode cL_law 450 = .ok (.invokevirtual 45, 3) := by decide +kernel
theorem dL_law_453 : decode cL_law 453 = .ok (.aload_n 2, 1) := by decide +kernel
theorem dL_law_454 : decode cL_law 454 = .ok (.aload_n 0, 1) := by decide +kernel
theorem dL_law_455 : decode cL_law 455 = .ok (.iload_n 3, 1) := by decide +kernel
theorem dL_law_456 : decode cL_law 456 = .ok (.iconst 1, 1) := by decide +kernel
theorem dL_law_457 : decode cL_law 457 = .ok (.iadd, 1) := by decide +kernel
theorem dL_law_458 : decode cL_law 458 = .ok (.iaload, 1) := by decide +kernel
theorem dL_law_459 : decode cL_law 459 = .ok (.aload_n 0, 1) := by decide +kernel
theorem dL_law_460 : decode cL_law 460 = .ok (.iload_n 3, 1) := by decide +kernel
theorem dL_law_461 : decode cL_law 461 = .ok (.iconst 2, 1) := by decide +kernel
theorem dL_law_462 : decode cL_law 462 = .ok (.iadd, 1) := by decide +kernel
theorem dL_law_463 : decode cL_law 463 = .ok (.iaload, 1) := by decide +kernel
theorem dL_law_464 : decode cL_law 464 = .ok (.invokevirtual 48, 3) := by decide +kernel
theorem dL_law_467 : decode cL_law 467 = .ok (.if_icmp .eq 581, 3) := by decide +kernel
theorem dL_law_470 : decode cL_law 470 = .ok (.iconst 0, 1) := by decide +kernel
theorem dL_law_471 : decode cL_law 471 = .ok (.ireturn, 1) := by decide +kernel
theorem dL_law_472 : decode cL_law 472 = .ok (.aload_n 1, 1) := by decide +kernel
theorem dL_law_473 : decode cL_law 473 = .ok (.aload_n 0, 1) := by decide +kernel
theorem dL_law_474 : decode cL_law 474 = .ok (.iload_n 3, 1) := by decide +kernel
theorem dL_law_475 : decode cL_law 475 = .ok (.iconst 1, 1) := by decide +kernel
theorem dL_law_476 : decode cL_law 476 = .ok (.iadd, 1) := by decide +kernel
theorem dL_law_477 : decode cL_law 477 = .ok (.iaload, 1) := by decide +kernel
theorem dL_law_478 : decode cL_law 478 = .ok (.aload_n 0, 1) := by decide +kernel
theorem dL_law_479 : decode cL_law 479 = .ok (.iload_n 3, 1) := by decide +kernel
theorem dL_law_480 : decode cL_law 480 = .ok (.iconst 2, 1) := by decide +kernel
theorem dL_law_481 : decode cL_law 481 = .ok (.iadd, 1) := by decide +kernel
theorem dL_law_482 : decode cL_law 482 = .ok (.iaload, 1) := by decide +kernel
theorem dL_law_483 : decode cL_law 483 = .ok (.invokevirtual 49, 3) := by decide +kernel
theorem dL_law_486 : decode cL_law 486 = .ok (.aload_n 2, 1) := by decide +kernel
theorem dL_law_487 : decode cL_law 487 = .ok (.aload_n 0, 1) := by decide +kernel
theorem dL_law_488 : decode cL_law 488 = .ok (.iload_n 3, 1) := by decide +kernel
theorem dL_law_489 : decode cL_law 489 = .ok (.iconst 1, 1) := by decide +kernel
theorem dL_law_490 : decode cL_law 490 = .ok (.iadd, 1) := by decide +kernel
theorem dL_law_491 : decode cL_law 491 = .ok (.iaload, 1) := by decide +kernel
theorem dL_law_492 : decode cL_law 492 = .ok (.aload_n 0, 1) := by decide +kernel
theorem dL_law_493 : decode cL_law 493 = .ok (.iload_n 3, 1) := by decide +kernel
theorem dL_law_494 : decode cL_law 494 = .ok (.iconst 2, 1) := by decide +kernel
theorem dL_law_495 : decode cL_law 495 = .ok (.iadd, 1) := by decide +kernel
theorem dL_law_496 : decode cL_law 496 = .ok (.iaload, 1) := by decide +kernel
theorem dL_law_497 : decode cL_law 497 = .ok (.invokevirtual 52, 3) := by decide +kernel
theorem dL_law_500 : decode cL_law 500 = .ok (.if_icmp .eq 548, 3) := by decide +kernel
theorem dL_law_503 : decode cL_law 503 = .ok (.iconst 0, 1) := by decide +kernel
theorem dL_law_504 : decode cL_law 504 = .ok (.ireturn, 1) := by decide +kernel
theorem dL_law_505 : decode cL_law 505 = .ok (.aload_n 1, 1) := by decide +kernel
theorem dL_law_506 : decode cL_law 506 = .ok (.aload_n 0, 1) := by decide +kernel
theorem dL_law_507 : decode cL_law 507 = .ok (.iload_n 3, 1) := by decide +kernel
theorem dL_law_508 : decode cL_law 508 = .ok (.iconst 1, 1) := by decide +kernel
theorem dL_law_509 : decode cL_law 509 = .ok (.iadd, 1) := by decide +kernel
theorem dL_law_510 : decode cL_law 510 = .ok (.iaload, 1) := by decide +kernel
theorem dL_law_511 : decode cL_law 511 = .ok (.aload_n 0, 1) := by decide +kernel
theorem dL_law_512 : decode cL_law 512 = .ok (.iload_n 3, 1) := by decide +kernel
theorem dL_law_513 : decode cL_law 513 = .ok (.iconst 2, 1) := by decide +kernel
theorem dL_law_514 : decode cL_law 514 = .ok (.iadd, 1) := by decide +kernel
theorem dL_law_515 : decode cL_law 515 = .ok (.iaload, 1) := by decide +kernel
theorem dL_law_516 : decode cL_law 516 = .ok (.invokevirtual 53, 3) := by decide +kernel
theorem dL_law_519 : decode cL_law 519 = .ok (.aload_n 2, 1) := by decide +kernel
theorem dL_law_520 : decode cL_law 520 = .ok (.aload_n 0, 1) := by decide +kernel
theorem dL_law_521 : decode cL_law 521 = .ok (.iload_n 3, 1) := by decide +kernel
theorem dL_law_522 : decode cL_law 522 = .ok (.iconst 1, 1) := by decide +kernel
theorem dL_law_523 : decode cL_law 523 = .ok (.iadd, 1) := by decide +kernel
theorem dL_law_524 : decode cL_law 524 = .ok (.iaload, 1) := by decide +kernel
theorem dL_law_525 : decode cL_law 525 = .ok (.aload_n 0, 1) := by decide +kernel
theorem dL_law_526 : decode cL_law 526 = .ok (.iload_n 3, 1) := by decide +kernel
theorem dL_law_527 : decode cL_law 527 = .ok (.iconst 2, 1) := by decide +kernel
theorem dL_law_528 : decode cL_law 528 = .ok (.iadd, 1) := by decide +kernel
theorem dL_law_529 : decode cL_law 529 = .ok (.iaload, 1) := by decide +kernel
theorem dL_law_530 : decode cL_law 530 = .ok (.invokevirtual 56, 3) := by decide +kernel
theorem dL_law_533 : decode cL_law 533 = .ok (.if_icmp .eq 515, 3) := by decide +kernel
theorem dL_law_536 : decode cL_law 536 = .ok (.iconst 0, 1) := by decide +kernel
theorem dL_law_537 : decode cL_law 537 = .ok (.ireturn, 1) := by decide +kernel
theorem dL_law_538 : decode cL_law 538 = .ok (.aload_n 1, 1) := by decide +kernel
theorem dL_law_539 : decode cL_law 539 = .ok (.aload_n 0, 1) := by decide +kernel
theorem dL_law_540 : decode cL_law 540 = .ok (.iload_n 3, 1) := by decide +kernel
theorem dL_law_541 : decode cL_law 541 = .ok (.iconst 1, 1) := by decide +kernel
theorem dL_law_542 : decode cL_law 542 = .ok (.iadd, 1) := by decide +kernel
theorem dL_law_543 : decode cL_law 543 = .ok (.iaload, 1) := by decide +kernel
theorem dL_law_544 : decode cL_law 544 = .ok (.invokevirtual 57, 3) := by decide +kernel
theorem dL_law_547 : decode cL_law 547 = .ok (.aload_n 2, 1) := by decide +kernel
theorem dL_law_548 : decode cL_law 548 = .ok (.aload_n 0, 1) := by decide +kernel
theorem dL_law_549 : decode cL_law 549 = .ok (.iload_n 3, 1) := by decide +kernel
theorem dL_law_550 : decode cL_law 550 = .ok (.iconst 1, 1) := by decide +kernel
theorem dL_law_551 : decode cL_law 551 = .ok (.iadd, 1) := by decide +kernel
theorem dL_law_552 : decode cL_law 552 = .ok (.iaload, 1) := by decide +kernel
theorem dL_law_553 : decode cL_law 553 = .ok (.invokevirtual 60, 3) := by decide +kernel
theorem dL_law_556 : decode cL_law 556 = .ok (.if_icmp .eq 492, 3) := by decide +kernel
theorem dL_law_559 : decode cL_law 559 = .ok (.iconst 0, 1) := by decide +kernel
theorem dL_law_560 : decode cL_law 560 = .ok (.ireturn, 1) := by decide +kernel
theorem dL_law_561 : decode cL_law 561 = .ok (.aload_n 1, 1) := by decide +kernel
theorem dL_law_562 : decode cL_law 562 = .ok (.invokevirtual 61, 3) := by decide +kernel
theorem dL_law_565 : decode cL_law 565 = .ok (.aload_n 2, 1) := by decide +kernel
theorem dL_law_566 : decode cL_law 566 = .ok (.invokevirtual 65, 3) := by decide +kernel
theorem dL_law_569 : decode cL_law 569 = .ok (.if_icmp .eq 479, 3) := by decide +kernel
theorem dL_law_572 : decode cL_law 572 = .ok (.iconst 0, 1) := by decide +kernel
theorem dL_law_573 : decode cL_law 573 = .ok (.ireturn, 1) := by decide +kernel
theorem dL_law_574 : decode cL_law 574 = .ok (.aload_n 1, 1) := by decide +kernel
theorem dL_law_575 : decode cL_law 575 = .ok (.aload_n 0, 1) := by decide +kernel
theorem dL_law_576 : decode cL_law 576 = .ok (.iload_n 3, 1) := by decide +kernel
theorem dL_law_577 : decode cL_law 577 = .ok (.iconst 1, 1) := by decide +kernel
theorem dL_law_578 : decode cL_law 578 = .ok (.iadd, 1) := by decide +kernel
theorem dL_law_579 : decode cL_law 579 = .ok (.iaload, 1) := by decide +kernel
theorem dL_law_580 : decode cL_law 580 = .ok (.invokevirtual 66, 3) := by decide +kernel
theorem dL_law_583 : decode cL_law 583 = .ok (.aload_n 2, 1) := by decide +kernel
theorem dL_law_584 : decode cL_law 584 = .ok (.aload_n 0, 1) := by decide +kernel
theorem dL_law_585 : decode cL_law 585 = .ok (.iload_n 3, 1) := by decide +kernel
theorem dL_law_586 : decode cL_law 586 = .ok (.iconst 1, 1) := by decide +kernel
theorem dL_law_587 : decode cL_law 587 = .ok (.iadd, 1) := by decide +kernel
theorem dL_law_588 : decode cL_law 588 = .ok (.iaload, 1) := by decide +kernel
theorem dL_law_589 : decode cL_law 589 = .ok (.invokevirtual 69, 3) := by decide +kernel
theorem dL_law_592 : decode cL_law 592 = .ok (.if_icmp .eq 456, 3) := by decide +kernel
theorem dL_law_595 : decode cL_law 595 = .ok (.iconst 0, 1) := by decide +kernel
theorem dL_law_596 : decode cL_law 596 = .ok (.ireturn, 1) := by decide +kernel
theorem dL_law_597 : decode cL_law 597 = .ok (.aload_n 1, 1) := by decide +kernel
theorem dL_law_598 : decode cL_law 598 = .ok (.aload_n 0, 1) := by decide +kernel
theorem dL_law_599 : decode cL_law 599 = .ok (.iload_n 3, 1) := by decide +kernel
theorem dL_law_600 : decode cL_law 600 = .ok (.iconst 1, 1) := by decide +kernel
theorem dL_law_601 : decode cL_law 601 = .ok (.iadd, 1) := by decide +kernel
theorem dL_law_602 : decode cL_law 602 = .ok (.iaload, 1) := by decide +kernel
theorem dL_law_603 : decode cL_law 603 = .ok (.aload_n 0, 1) := by decide +kernel
theorem dL_law_604 : decode cL_law 604 = .ok (.iload_n 3, 1) := by decide +kernel
theorem dL_law_605 : decode cL_law 605 = .ok (.iconst 2, 1) := by decide +kernel
theorem dL_law_606 : decode cL_law 606 = .ok (.iadd, 1) := by decide +kernel
theorem dL_law_607 : decode cL_law 607 = .ok (.iaload, 1) := by decide +kernel
theorem dL_law_608 : decode cL_law 608 = .ok (.invokevirtual 70, 3) := by decide +kernel
theorem dL_law_611 : decode cL_law 611 = .ok (.aload_n 2, 1) := by decide +kernel
theorem dL_law_612 : decode cL_law 612 = .ok (.aload_n 0, 1) := by decide +kernel
theorem dL_law_613 : decode cL_law 613 = .ok (.iload_n 3, 1) := by decide +kernel
theorem dL_law_614 : decode cL_law 614 = .ok (.iconst 1, 1) := by decide +kernel
theorem dL_law_615 : decode cL_law 615 = .ok (.iadd, 1) := by decide +kernel
theorem dL_law_616 : decode cL_law 616 = .ok (.iaload, 1) := by decide +kernel
theorem dL_law_617 : decode cL_law 617 = .ok (.aload_n 0, 1) := by decide +kernel
theorem dL_law_618 : decode cL_law 618 = .ok (.iload_n 3, 1) := by decide +kernel
theorem dL_law_619 : decode cL_law 619 = .ok (.iconst 2, 1) := by decide +kernel
theorem dL_law_620 : decode cL_law 620 = .ok (.iadd, 1) := by decide +kernel
theorem dL_law_621 : decode cL_law 621 = .ok (.iaload, 1) := by decide +kernel
theorem dL_law_622 : decode cL_law 622 = .ok (.invokevirtual 73, 3) := by decide +kernel
theorem dL_law_625 : decode cL_law 625 = .ok (.if_icmp .eq 423, 3) := by decide +kernel
theorem dL_law_628 : decode cL_law 628 = .ok (.iconst 0, 1) := by decide +kernel
theorem dL_law_629 : decode cL_law 629 = .ok (.ireturn, 1) := by decide +kernel
theorem dL_law_630 : decode cL_law 630 = .ok (.aload_n 1, 1) := by decide +kernel
theorem dL_law_631 : decode cL_law 631 = .ok (.aload_n 0, 1) := by decide +kernel
theorem dL_law_632 : decode cL_law 632 = .ok (.iload_n 3, 1) := by decide +kernel
theorem dL_law_633 : decode cL_law 633 = .ok (.iconst 1, 1) := by decide +kernel
theorem dL_law_634 : decode cL_law 634 = .ok (.iadd, 1) := by decide +kernel
theorem dL_law_635 : decode cL_law 635 = .ok (.iaload, 1) := by decide +kernel
theorem dL_law_636 : decode cL_law 636 = .ok (.invokevirtual 74, 3) := by decide +kernel
theorem dL_law_639 : decode cL_law 639 = .ok (.aload_n 2, 1) := by decide +kernel
theorem dL_law_640 : decode cL_law 640 = .ok (.aload_n 0, 1) := by decide +kernel
theorem dL_law_641 : decode cL_law 641 = .ok (.iload_n 3, 1) := by decide +kernel
theorem dL_law_642 : decode cL_law 642 = .ok (.iconst 1, 1) := by decide +kernel
theorem dL_law_643 : decode cL_law 643 = .ok (.iadd, 1) := by decide +kernel
theorem dL_law_644 : decode cL_law 644 = .ok (.iaload, 1) := by decide +kernel
theorem dL_law_645 : decode cL_law 645 = .ok (.invokevirtual 77, 3) := by decide +kernel
theorem dL_law_648 : decode cL_law 648 = .ok (.if_icmp .eq 400, 3) := by decide +kernel
theorem dL_law_651 : decode cL_law 651 = .ok (.iconst 0, 1) := by decide +kernel
theorem dL_law_652 : decode cL_law 652 = .ok (.ireturn, 1) := by decide +kernel
theorem dL_law_653 : decode cL_law 653 = .ok (.aload_n 1, 1) := by decide +kernel
theorem dL_law_654 : decode cL_law 654 = .ok (.invokevirtual 78, 3) := by decide +kernel
theorem dL_law_657 : decode cL_law 657 = .ok (.aload_n 2, 1) := by decide +kernel
theorem dL_law_658 : decode cL_law 658 = .ok (.invokevirtual 81, 3) := by decide +kernel
theorem dL_law_661 : decode cL_law 661 = .ok (.if_icmp .eq 387, 3) := by decide +kernel
theorem dL_law_664 : decode cL_law 664 = .ok (.iconst 0, 1) := by decide +kernel
theorem dL_law_665 : decode cL_law 665 = .ok (.ireturn, 1) := by decide +kernel
theorem dL_law_666 : decode cL_law 666 = .ok (.aload_n 1, 1) := by decide +kernel
theorem dL_law_667 : decode cL_law 667 = .ok (.aload_n 0, 1) := by decide +kernel
theorem dL_law_668 : decode cL_law 668 = .ok (.iload_n 3, 1) := by decide +kernel
theorem dL_law_669 : decode cL_law 669 = .ok (.iconst 1, 1) := by decide +kernel
theorem dL_law_670 : decode cL_law 670 = .ok (.iadd, 1) := by decide +kernel
theorem dL_law_671 : decode cL_law 671 = .ok (.iaload, 1) := by decide +kernel
theorem dL_law_672 : decode cL_law 672 = .ok (.invokevirtual 82, 3) := by decide +kernel
theorem dL_law_675 : decode cL_law 675 = .ok (.aload_n 2, 1) := by decide +kernel
theorem dL_law_676 : decode cL_law 676 = .ok (.aload_n 0, 1) := by decide +kernel
theorem dL_law_677 : decode cL_law 677 = .ok (.iload_n 3, 1) := by decide +kernel
theorem dL_law_678 : decode cL_law 678 = .ok (.iconst 1, 1) := by decide +kernel
theorem dL_law_679 : decode cL_law 679 = .ok (.iadd, 1) := by decide +kernel
theorem dL_law_680 : decode cL_law 680 = .ok (.iaload, 1) := by decide +kernel
theorem dL_law_681 : decode cL_law 681 = .ok (.invokevirtual 85, 3) := by decide +kernel
theorem dL_law_684 : decode cL_law 684 = .ok (.if_icmp .eq 364, 3) := by decide +kernel
theorem dL_law_687 : decode cL_law 687 = .ok (.iconst 0, 1) := by decide +kernel
theorem dL_law_688 : decode cL_law 688 = .ok (.ireturn, 1) := by decide +kernel
theorem dL_law_689 : decode cL_law 689 = .ok (.aload_n 1, 1) := by decide +kernel
theorem dL_law_690 : decode cL_law 690 = .ok (.aload_n 0, 1) := by decide +kernel
theorem dL_law_691 : decode cL_law 691 = .ok (.iload_n 3, 1) := by decide +kernel
theorem dL_law_692 : decode cL_law 692 = .ok (.iconst 1, 1) := by decide +kernel
theorem dL_law_693 : decode cL_law 693 = .ok (.iadd, 1) := by decide +kernel
theorem dL_law_694 : decode cL_law 694 = .ok (.iaload, 1) := by decide +kernel
theorem dL_law_695 : decode cL_law 695 = .ok (.aload_n 0, 1) := by decide +kernel
theorem dL_law_696 : decode cL_law 696 = .ok (.iload_n 3, 1) := by decide +kernel
theorem dL_law_697 : decode cL_law 697 = .ok (.iconst 2, 1) := by decide +kernel
theorem dL_law_698 : decode cL_law 698 = .ok (.iadd, 1) := by decide +kernel
theorem dL_law_699 : decode cL_law 699 = .ok (.iaload, 1) := by decide +kernel
theorem dL_law_700 : decode cL_law 700 = .ok (.ifCond .eq 7, 3) := by decide +kernel
theorem dL_law_703 : decode cL_law 703 = .ok (.iconst 1, 1) := by decide +kernel
theorem dL_law_704 : decode cL_law 704 = .ok (.goto 4, 3) := by decide +kernel
theorem dL_law_707 : decode cL_law 707 = .ok (.iconst 0, 1) := by decide +kernel
theorem dL_law_708 : decode cL_law 708 = .ok (.invokevirtual 86, 3) := by decide +kernel
theorem dL_law_711 : decode cL_law 711 = .ok (.aload_n 2, 1) := by decide +kernel
theorem dL_law_712 : decode cL_law 712 = .ok (.aload_n 0, 1) := by decide +kernel
theorem dL_law_713 : decode cL_law 713 = .ok (.iload_n 3, 1) := by decide +kernel
theorem dL_law_714 : decode cL_law 714 = .ok (.iconst 1, 1) := by decide +kernel
theorem dL_law_715 : decode cL_law 715 = .ok (.iadd, 1) := by decide +kernel
theorem dL_law_716 : decode cL_law 716 = .ok (.iaload, 1) := by decide +kernel
theorem dL_law_717 : decode cL_law 717 = .ok (.aload_n 0, 1) := by decide +kernel
theorem dL_law_718 : decode cL_law 718 = .ok (.iload_n 3, 1) := by decide +kernel
theorem dL_law_719 : decode cL_law 719 = .ok (.iconst 2, 1) := by decide +kernel
theorem dL_law_720 : decode cL_law 720 = .ok (.iadd, 1) := by decide +kernel
theorem dL_law_721 : decode cL_law 721 = .ok (.iaload, 1) := by decide +kernel
theorem dL_law_722 : decode cL_law 722 = .ok (.ifCond .eq 7, 3) := by decide +kernel
theorem dL_law_725 : decode cL_law 725 = .ok (.iconst 1, 1) := by decide +kernel
theorem dL_law_726 : decode cL_law 726 = .ok (.goto 4, 3) := by decide +kernel
theorem dL_law_729 : decode cL_law 729 = .ok (.iconst 0, 1) := by decide +kernel
theorem dL_law_730 : decode cL_law 730 = .ok (.invokevirtual 90, 3) := by decide +kernel
theorem dL_law_733 : decode cL_law 733 = .ok (.if_icmp .eq 315, 3) := by decide +kernel
theorem dL_law_736 : decode cL_law 736 = .ok (.iconst 0, 1) := by decide +kernel
theorem dL_law_737 : decode cL_law 737 = .ok (.ireturn, 1) := by decide +kernel
theorem dL_law_738 : decode cL_law 738 = .ok (.aload_n 1, 1) := by decide +kernel
theorem dL_law_739 : decode cL_law 739 = .ok (.aload_n 0, 1) := by decide +kernel
theorem dL_law_740 : decode cL_law 740 = .ok (.iload_n 3, 1) := by decide +kernel
theorem dL_law_741 : decode cL_law 741 = .ok (.iconst 1, 1) := by decide +kernel
theorem dL_law_742 : decode cL_law 742 = .ok (.iadd, 1) := by decide +kernel
theorem dL_law_743 : decode cL_law 743 = .ok (.iaload, 1) := by decide +kernel
theorem dL_law_744 : decode cL_law 744 = .ok (.aload_n 0, 1) := by decide +kernel
theorem dL_law_745 : decode cL_law 745 = .ok (.iload_n 3, 1) := by decide +kernel
theorem dL_law_746 : decode cL_law 746 = .ok (.iconst 2, 1) := by decide +kernel
theorem dL_law_747 : decode cL_law 747 = .ok (.iadd, 1) := by decide +kernel
theorem dL_law_748 : decode cL_law 748 = .ok (.iaload, 1) := by decide +kernel
theorem dL_law_749 : decode cL_law 749 = .ok (.invokevirtual 91, 3) := by decide +kernel
theorem dL_law_752 : decode cL_law 752 = .ok (.aload_n 2, 1) := by decide +kernel
theorem dL_law_753 : decode cL_law 753 = .ok (.aload_n 0, 1) := by decide +kernel
theorem dL_law_754 : decode cL_law 754 = .ok (.iload_n 3, 1) := by decide +kernel
theorem dL_law_755 : decode cL_law 755 = .ok (.iconst 1, 1) := by decide +kernel
theorem dL_law_756 : decode cL_law 756 = .ok (.iadd, 1) := by decide +kernel
theorem dL_law_757 : decode cL_law 757 = .ok (.iaload, 1) := by decide +kernel
theorem dL_law_758 : decode cL_law 758 = .ok (.aload_n 0, 1) := by decide +kernel
theorem dL_law_759 : decode cL_law 759 = .ok (.iload_n 3, 1) := by decide +kernel
theorem dL_law_760 : decode cL_law 760 = .ok (.iconst 2, 1) := by decide +kernel
theorem dL_law_761 : decode cL_law 761 = .ok (.iadd, 1) := by decide +kernel
theorem dL_law_762 : decode cL_law 762 = .ok (.iaload, 1) := by decide +kernel
theorem dL_law_763 : decode cL_law 763 = .ok (.invokevirtual 94, 3) := by decide +kernel
theorem dL_law_766 : decode cL_law 766 = .ok (.if_icmp .eq 282, 3) := by decide +kernel
theorem dL_law_769 : decode cL_law 769 = .ok (.iconst 0, 1) := by decide +kernel
theorem dL_law_770 : decode cL_law 770 = .ok (.ireturn, 1) := by decide +kernel
theorem dL_law_771 : decode cL_law 771 = .ok (.aload_n 1, 1) := by decide +kernel
theorem dL_law_772 : decode cL_law 772 = .ok (.aload_n 0, 1) := by decide +kernel
theorem dL_law_773 : decode cL_law 773 = .ok (.iload_n 3, 1) := by decide +kernel
theorem dL_law_774 : decode cL_law 774 = .ok (.iconst 1, 1) := by decide +kernel
theorem dL_law_775 : decode cL_law 775 = .ok (.iadd, 1) := by decide +kernel
theorem dL_law_776 : decode cL_law 776 = .ok (.iaload, 1) := by decide +kernel
theorem dL_law_777 : decode cL_law 777 = .ok (.invokevirtual 95, 3) := by decide +kernel
theorem dL_law_780 : decode cL_law 780 = .ok (.aload_n 2, 1) := by decide +kernel
theorem dL_law_781 : decode cL_law 781 = .ok (.aload_n 0, 1) := by decide +kernel
theorem dL_law_782 : decode cL_law 782 = .ok (.iload_n 3, 1) := by decide +kernel
theorem dL_law_783 : decode cL_law 783 = .ok (.iconst 1, 1) := by decide +kernel
theorem dL_law_784 : decode cL_law 784 = .ok (.iadd, 1) := by decide +kernel
theorem dL_law_785 : decode cL_law 785 = .ok (.iaload, 1) := by decide +kernel
theorem dL_law_786 : decode cL_law 786 = .ok (.invokevirtual 98, 3) := by decide +kernel
theorem dL_law_789 : decode cL_law 789 = .ok (.if_icmp .eq 259, 3) := by decide +kernel
theorem dL_law_792 : decode cL_law 792 = .ok (.iconst 0, 1) := by decide +kernel
theorem dL_law_793 : decode cL_law 793 = .ok (.ireturn, 1) := by decide +kernel
theorem dL_law_794 : decode cL_law 794 = .ok (.aload_n 1, 1) := by decide +kernel
theorem dL_law_795 : decode cL_law 795 = .ok (.aload_n 0, 1) := by decide +kernel
theorem dL_law_796 : decode cL_law 796 = .ok (.iload_n 3, 1) := by decide +kernel
theorem dL_law_797 : decode cL_law 797 = .ok (.iconst 1, 1) := by decide +kernel
theorem dL_law_798 : decode cL_law 798 = .ok (.iadd, 1) := by decide +kernel
theorem dL_law_799 : decode cL_law 799 = .ok (.iaload, 1) := by decide +kernel
theorem dL_law_800 : decode cL_law 800 = .ok (.invokevirtual 99, 3) := by decide +kernel
theorem dL_law_803 : decode cL_law 803 = .ok (.aload_n 2, 1) := by decide +kernel
theorem dL_law_804 : decode cL_law 804 = .ok (.aload_n 0, 1) := by decide +kernel
theorem dL_law_805 : decode cL_law 805 = .ok (.iload_n 3, 1) := by decide +kernel
theorem dL_law_806 : decode cL_law 806 = .ok (.iconst 1, 1) := by decide +kernel
theorem dL_law_807 : decode cL_law 807 = .ok (.iadd, 1) := by decide +kernel
theorem dL_law_808 : decode cL_law 808 = .ok (.iaload, 1) := by decide +kernel
theorem dL_law_809 : decode cL_law 809 = .ok (.invokevirtual 102, 3) := by decide +kernel
theorem dL_law_812 : decode cL_law 812 = .ok (.if_icmp .eq 236, 3) := by decide +kernel
theorem dL_law_815 : decode cL_law 815 = .ok (.iconst 0, 1) := by decide +kernel
theorem dL_law_816 : decode cL_law 816 = .ok (.ireturn, 1) := by decide +kernel
theorem dL_law_817 : decode cL_law 817 = .ok (.aload_n 1, 1) := by decide +kernel
theorem dL_law_818 : decode cL_law 818 = .ok (.invokevirtual 103, 3) := by decide +kernel
theorem dL_law_821 : decode cL_law 821 = .ok (.aload_n 2, 1) := by decide +kernel
theorem dL_law_822 : decode cL_law 822 = .ok (.invokevirtual 106, 3) := by decide +kernel
theorem dL_law_825 : decode cL_law 825 = .ok (.if_icmp .eq 223, 3) := by decide +kernel
theorem dL_law_828 : decode cL_law 828 = .ok (.iconst 0, 1) := by decide +kernel
theorem dL_law_829 : decode cL_law 829 = .ok (.ireturn, 1) := by decide +kernel
theorem dL_law_830 : decode cL_law 830 = .ok (.aload_n 1, 1) := by decide +kernel
theorem dL_law_831 : decode cL_law 831 = .ok (.aload_n 0, 1) := by decide +kernel
theorem dL_law_832 : decode cL_law 832 = .ok (.iload_n 3, 1) := by decide +kernel
theorem dL_law_833 : decode cL_law 833 = .ok (.iconst 1, 1) := by decide +kernel
theorem dL_law_834 : decode cL_law 834 = .ok (.iadd, 1) := by decide +kernel
theorem dL_law_835 : decode cL_law 835 = .ok (.iaload, 1) := by decide +kernel
theorem dL_law_836 : decode cL_law 836 = .ok (.invokevirtual 107, 3) := by decide +kernel
theorem dL_law_839 : decode cL_law 839 = .ok (.aload_n 2, 1) := by decide +kernel
theorem dL_law_840 : decode cL_law 840 = .ok (.aload_n 0, 1) := by decide +kernel
theorem dL_law_841 : decode cL_law 841 = .ok (.iload_n 3, 1) := by decide +kernel
theorem dL_law_842 : decode cL_law 842 = .ok (.iconst 1, 1) := by decide +kernel
theorem dL_law_843 : decode cL_law 843 = .ok (.iadd, 1) := by decide +kernel
theorem dL_law_844 : decode cL_law 844 = .ok (.iaload, 1) := by decide +kernel
theorem dL_law_845 : decode cL_law 845 = .ok (.invokevirtual 110, 3) := by decide +kernel
theorem dL_law_848 : decode cL_law 848 = .ok (.if_icmp .eq 200, 3) := by decide +kernel
theorem dL_law_851 : decode cL_law 851 = .ok (.iconst 0, 1) := by decide +kernel
theorem dL_law_852 : decode cL_law 852 = .ok (.ireturn, 1) := by decide +kernel
theorem dL_law_853 : decode cL_law 853 = .ok (.aload_n 1, 1) := by decide +kernel
theorem dL_law_854 : decode cL_law 854 = .ok (.aload_n 0, 1) := by decide +kernel
theorem dL_law_855 : decode cL_law 855 = .ok (.iload_n 3, 1) := by decide +kernel
theorem dL_law_856 : decode cL_law 856 = .ok (.iconst 1, 1) := by decide +kernel
theorem dL_law_857 : decode cL_law 857 = .ok (.iadd, 1) := by decide +kernel
theorem dL_law_858 : decode cL_law 858 = .ok (.iaload, 1) := by decide +kernel
theorem dL_law_859 : decode cL_law 859 = .ok (.aload_n 0, 1) := by decide +kernel
theorem dL_law_860 : decode cL_law 860 = .ok (.iload_n 3, 1) := by decide +kernel
theorem dL_law_861 : decode cL_law 861 = .ok (.iconst 2, 1) := by decide +kernel
theorem dL_law_862 : decode cL_law 862 = .ok (.iadd, 1) := by decide +kernel
theorem dL_law_863 : decode cL_law 863 = .ok (.iaload, 1) := by decide +kernel
theorem dL_law_864 : decode cL_law 864 = .ok (.aload_n 0, 1) := by decide +kernel
theorem dL_law_865 : decode cL_law 865 = .ok (.iload_n 3, 1) := by decide +kernel
theorem dL_law_866 : decode cL_law 866 = .ok (.iconst 3, 1) := by decide +kernel
theorem dL_law_867 : decode cL_law 867 = .ok (.iadd, 1) := by decide +kernel
theorem dL_law_868 : decode cL_law 868 = .ok (.iaload, 1) := by decide +kernel
theorem dL_law_869 : decode cL_law 869 = .ok (.invokevirtual 111, 3) := by decide +kernel
theorem dL_law_872 : decode cL_law 872 = .ok (.aload_n 2, 1) := by decide +kernel
theorem dL_law_873 : decode cL_law 873 = .ok (.aload_n 0, 1) := by decide +kernel
theorem dL_law_874 : decode cL_law 874 = .ok (.iload_n 3, 1) := by decide +kernel
theorem dL_law_875 : decode cL_law 875 = .ok (.iconst 1, 1) := by decide +kernel
theorem dL_law_876 : decode cL_law 876 = .ok (.iadd, 1) := by decide +kernel
theorem dL_law_877 : decode cL_law 877 = .ok (.iaload, 1) := by decide +kernel
theorem dL_law_878 : decode cL_law 878 = .ok (.aload_n 0, 1) := by decide +kernel
theorem dL_law_879 : decode cL_law 879 = .ok (.iload_n 3, 1) := by decide +kernel
theorem dL_law_880 : decode cL_law 880 = .ok (.iconst 2, 1) := by decide +kernel
theorem dL_law_881 : decode cL_law 881 = .ok (.iadd, 1) := by decide +kernel
theorem dL_law_882 : decode cL_law 882 = .ok (.iaload, 1) := by decide +kernel
theorem dL_law_883 : decode cL_law 883 = .ok (.aload_n 0, 1) := by decide +kernel
theorem dL_law_884 : decode cL_law 884 = .ok (.iload_n 3, 1) := by decide +kernel
theorem dL_law_885 : decode cL_law 885 = .ok (.iconst 3, 1) := by decide +kernel
theorem dL_law_886 : decode cL_law 886 = .ok (.iadd, 1) := by decide +kernel
theorem dL_law_887 : decode cL_law 887 = .ok (.iaload, 1) := by decide +kernel
theorem dL_law_888 : decode cL_law 888 = .ok (.invokevirtual 114, 3) := by decide +kernel
theorem dL_law_891 : decode cL_law 891 = .ok (.if_icmp .eq 157, 3) := by decide +kernel
theorem dL_law_894 : decode cL_law 894 = .ok (.iconst 0, 1) := by decide +kernel
theorem dL_law_895 : decode cL_law 895 = .ok (.ireturn, 1) := by decide +kernel
theorem dL_law_896 : decode cL_law 896 = .ok (.aload_n 1, 1) := by decide +kernel
theorem dL_law_897 : decode cL_law 897 = .ok (.aload_n 0, 1) := by decide +kernel
theorem dL_law_898 : decode cL_law 898 = .ok (.iload_n 3, 1) := by decide +kernel
theorem dL_law_899 : decode cL_law 899 = .ok (.iconst 1, 1) := by decide +kernel
theorem dL_law_900 : decode cL_law 900 = .ok (.iadd, 1) := by decide +kernel
theorem dL_law_901 : decode cL_law 901 = .ok (.iaload, 1) := by decide +kernel
theorem dL_law_902 : decode cL_law 902 = .ok (.aload_n 0, 1) := by decide +kernel
theorem dL_law_903 : decode cL_law 903 = .ok (.iload_n 3, 1) := by decide +kernel
theorem dL_law_904 : decode cL_law 904 = .ok (.iconst 2, 1) := by decide +kernel
theorem dL_law_905 : decode cL_law 905 = .ok (.iadd, 1) := by decide +kernel
theorem dL_law_906 : decode cL_law 906 = .ok (.iaload, 1) := by decide +kernel
theorem dL_law_907 : decode cL_law 907 = .ok (.invokevirtual 115, 3) := by decide +kernel
theorem dL_law_910 : decode cL_law 910 = .ok (.aload_n 2, 1) := by decide +kernel
theorem dL_law_911 : decode cL_law 911 = .ok (.aload_n 0, 1) := by decide +kernel
theorem dL_law_912 : decode cL_law 912 = .ok (.iload_n 3, 1) := by decide +kernel
theorem dL_law_913 : decode cL_law 913 = .ok (.iconst 1, 1) := by decide +kernel
theorem dL_law_914 : decode cL_law 914 = .ok (.iadd, 1) := by decide +kernel
theorem dL_law_915 : decode cL_law 915 = .ok (.iaload, 1) := by decide +kernel
theorem dL_law_916 : decode cL_law 916 = .ok (.aload_n 0, 1) := by decide +kernel
theorem dL_law_917 : decode cL_law 917 = .ok (.iload_n 3, 1) := by decide +kernel
theorem dL_law_918 : decode cL_law 918 = .ok (.iconst 2, 1) := by decide +kernel
theorem dL_law_919 : decode cL_law 919 = .ok (.iadd, 1) := by decide +kernel
theorem dL_law_920 : decode cL_law 920 = .ok (.iaload, 1) := by decide +kernel
theorem dL_law_921 : decode cL_law 921 = .ok (.invokevirtual 118, 3) := by decide +kernel
theorem dL_law_924 : decode cL_law 924 = .ok (.if_icmp .eq 124, 3) := by decide +kernel
theorem dL_law_927 : decode cL_law 927 = .ok (.iconst 0, 1) := by decide +kernel
theorem dL_law_928 : decode cL_law 928 = .ok (.ireturn, 1) := by decide +kernel
theorem dL_law_929 : decode cL_law 929 = .ok (.aload_n 1, 1) := by decide +kernel
theorem dL_law_930 : decode cL_law 930 = .ok (.aload_n 0, 1) := by decide +kernel
theorem dL_law_931 : decode cL_law 931 = .ok (.iload_n 3, 1) := by decide +kernel
theorem dL_law_932 : decode cL_law 932 = .ok (.iconst 1, 1) := by decide +kernel
theorem dL_law_933 : decode cL_law 933 = .ok (.iadd, 1) := by decide +kernel
theorem dL_law_934 : decode cL_law 934 = .ok (.iaload, 1) := by decide +kernel
theorem dL_law_935 : decode cL_law 935 = .ok (.aload_n 0, 1) := by decide +kernel
theorem dL_law_936 : decode cL_law 936 = .ok (.iload_n 3, 1) := by decide +kernel
theorem dL_law_937 : decode cL_law 937 = .ok (.iconst 2, 1) := by decide +kernel
theorem dL_law_938 : decode cL_law 938 = .ok (.iadd, 1) := by decide +kernel
theorem dL_law_939 : decode cL_law 939 = .ok (.iaload, 1) := by decide +kernel
theorem dL_law_940 : decode cL_law 940 = .ok (.aload_n 0, 1) := by decide +kernel
theorem dL_law_941 : decode cL_law 941 = .ok (.iload_n 3, 1) := by decide +kernel
theorem dL_law_942 : decode cL_law 942 = .ok (.iconst 3, 1) := by decide +kernel
theorem dL_law_943 : decode cL_law 943 = .ok (.iadd, 1) := by decide +kernel
theorem dL_law_944 : decode cL_law 944 = .ok (.iaload, 1) := by decide +kernel
theorem dL_law_945 : decode cL_law 945 = .ok (.invokevirtual 119, 3) := by decide +kernel
theorem dL_law_948 : decode cL_law 948 = .ok (.aload_n 2, 1) := by decide +kernel
theorem dL_law_949 : decode cL_law 949 = .ok (.aload_n 0, 1) := by decide +kernel
theorem dL_law_950 : decode cL_law 950 = .ok (.iload_n 3, 1) := by decide +kernel
theorem dL_law_951 : decode cL_law 951 = .ok (.iconst 1, 1) := by decide +kernel
theorem dL_law_952 : decode cL_law 952 = .ok (.iadd, 1) := by decide +kernel
theorem dL_law_953 : decode cL_law 953 = .ok (.iaload, 1) := by decide +kernel
theorem dL_law_954 : decode cL_law 954 = .ok (.aload_n 0, 1) := by decide +kernel
theorem dL_law_955 : decode cL_law 955 = .ok (.iload_n 3, 1) := by decide +kernel
theorem dL_law_956 : decode cL_law 956 = .ok (.iconst 2, 1) := by decide +kernel
theorem dL_law_957 : decode cL_law 957 = .ok (.iadd, 1) := by decide +kernel
theorem dL_law_958 : decode cL_law 958 = .ok (.iaload, 1) := by decide +kernel
theorem dL_law_959 : decode cL_law 959 = .ok (.aload_n 0, 1) := by decide +kernel
theorem dL_law_960 : decode cL_law 960 = .ok (.iload_n 3, 1) := by decide +kernel
theorem dL_law_961 : decode cL_law 961 = .ok (.iconst 3, 1) := by decide +kernel
theorem dL_law_962 : decode cL_law 962 = .ok (.iadd, 1) := by decide +kernel
theorem dL_law_963 : decode cL_law 963 = .ok (.iaload, 1) := by decide +kernel
theorem dL_law_964 : decode cL_law 964 = .ok (.invokevirtual 122, 3) := by decide +kernel
theorem dL_law_967 : decode cL_law 967 = .ok (.if_icmp .eq 81, 3) := by decide +kernel
theorem dL_law_970 : decode cL_law 970 = .ok (.iconst 0, 1) := by decide +kernel
theorem dL_law_971 : decode cL_law 971 = .ok (.ireturn, 1) := by decide +kernel
theorem dL_law_972 : decode cL_law 972 = .ok (.aload_n 1, 1) := by decide +kernel
theorem dL_law_973 : decode cL_law 973 = .ok (.aload_n 0, 1) := by decide +kernel
theorem dL_law_974 : decode cL_law 974 = .ok (.iload_n 3, 1) := by decide +kernel
theorem dL_law_975 : decode cL_law 975 = .ok (.iconst 1, 1) := by decide +kernel
theorem dL_law_976 : decode cL_law 976 = .ok (.iadd, 1) := by decide +kernel
theorem dL_law_977 : decode cL_law 977 = .ok (.iaload, 1) := by decide +kernel
theorem dL_law_978 : decode cL_law 978 = .ok (.aload_n 0, 1) := by decide +kernel
theorem dL_law_979 : decode cL_law 979 = .ok (.iload_n 3, 1) := by decide +kernel
theorem dL_law_980 : decode cL_law 980 = .ok (.iconst 2, 1) := by decide +kernel
theorem dL_law_981 : decode cL_law 981 = .ok (.iadd, 1) := by decide +kernel
theorem dL_law_982 : decode cL_law 982 = .ok (.iaload, 1) := by decide +kernel
theorem dL_law_983 : decode cL_law 983 = .ok (.aload_n 0, 1) := by decide +kernel
theorem dL_law_984 : decode cL_law 984 = .ok (.iload_n 3, 1) := by decide +kernel
theorem dL_law_985 : decode cL_law 985 = .ok (.iconst 3, 1) := by decide +kernel
theorem dL_law_986 : decode cL_law 986 = .ok (.iadd, 1) := by decide +kernel
theorem dL_law_987 : decode cL_law 987 = .ok (.iaload, 1) := by decide +kernel
theorem dL_law_988 : decode cL_law 988 = .ok (.aload_n 0, 1) := by decide +kernel
theorem dL_law_989 : decode cL_law 989 = .ok (.iload_n 3, 1) := by decide +kernel
theorem dL_law_990 : decode cL_law 990 = .ok (.iconst 4, 1) := by decide +kernel
theorem dL_law_991 : decode cL_law 991 = .ok (.iadd, 1) := by decide +kernel
theorem dL_law_992 : decode cL_law 992 = .ok (.iaload, 1) := by decide +kernel
theorem dL_law_993 : decode cL_law 993 = .ok (.invokevirtual 123, 3) := by decide +kernel
theorem dL_law_996 : decode cL_law 996 = .ok (.aload_n 2, 1) := by decide +kernel
theorem dL_law_997 : decode cL_law 997 = .ok (.aload_n 0, 1) := by decide +kernel
theorem dL_law_998 : decode cL_law 998 = .ok (.iload_n 3, 1) := by decide +kernel
theorem dL_law_999 : decode cL_law 999 = .ok (.iconst 1, 1) := by decide +kernel
theorem dL_law_1000 : decode cL_law 1000 = .ok (.iadd, 1) := by decide +kernel
theorem dL_law_1001 : decode cL_law 1001 = .ok (.iaload, 1) := by decide +kernel
theorem dL_law_1002 : decode cL_law 1002 = .ok (.aload_n 0, 1) := by decide +kernel
theorem dL_law_1003 : decode cL_law 1003 = .ok (.iload_n 3, 1) := by decide +kernel
theorem dL_law_1004 : decode cL_law 1004 = .ok (.iconst 2, 1) := by decide +kernel
theorem dL_law_1005 : decode cL_law 1005 = .ok (.iadd, 1) := by decide +kernel
theorem dL_law_1006 : decode cL_law 1006 = .ok (.iaload, 1) := by decide +kernel
theorem dL_law_1007 : decode cL_law 1007 = .ok (.aload_n 0, 1) := by decide +kernel
theorem dL_law_1008 : decode cL_law 1008 = .ok (.iload_n 3, 1) := by decide +kernel
theorem dL_law_1009 : decode cL_law 1009 = .ok (.iconst 3, 1) := by decide +kernel
theorem dL_law_1010 : decode cL_law 1010 = .ok (.iadd, 1) := by decide +kernel
theorem dL_law_1011 : decode cL_law 1011 = .ok (.iaload, 1) := by decide +kernel
theorem dL_law_1012 : decode cL_law 1012 = .ok (.aload_n 0, 1) := by decide +kernel
theorem dL_law_1013 : decode cL_law 1013 = .ok (.iload_n 3, 1) := by decide +kernel
theorem dL_law_1014 : decode cL_law 1014 = .ok (.iconst 4, 1) := by decide +kernel
theorem dL_law_1015 : decode cL_law 1015 = .ok (.iadd, 1) := by decide +kernel
theorem dL_law_1016 : decode cL_law 1016 = .ok (.iaload, 1) := by decide +kernel
theorem dL_law_1017 : decode cL_law 1017 = .ok (.invokevirtual 127, 3) := by decide +kernel
theorem dL_law_1020 : decode cL_law 1020 = .ok (.if_icmp .eq 28, 3) := by decide +kernel
theorem dL_law_1023 : decode cL_law 1023 = .ok (.iconst 0, 1) := by decide +kernel
theorem dL_law_1024 : decode cL_law 1024 = .ok (.ireturn, 1) := by decide +kernel
theorem dL_law_1025 : decode cL_law 1025 = .ok (.aload_n 1, 1) := by decide +kernel
theorem dL_law_1026 : decode cL_law 1026 = .ok (.aload_n 0, 1) := by decide +kernel
theorem dL_law_1027 : decode cL_law 1027 = .ok (.iload_n 3, 1) := by decide +kernel
theorem dL_law_1028 : decode cL_law 1028 = .ok (.iconst 1, 1) := by decide +kernel
theorem dL_law_1029 : decode cL_law 1029 = .ok (.iadd, 1) := by decide +kernel
theorem dL_law_1030 : decode cL_law 1030 = .ok (.iaload, 1) := by decide +kernel
theorem dL_law_1031 : decode cL_law 1031 = .ok (.invokevirtual 128, 3) := by decide +kernel
theorem dL_law_1034 : decode cL_law 1034 = .ok (.aload_n 2, 1) := by decide +kernel
theorem dL_law_1035 : decode cL_law 1035 = .ok (.aload_n 0, 1) := by decide +kernel
theorem dL_law_1036 : decode cL_law 1036 = .ok (.iload_n 3, 1) := by decide +kernel
theorem dL_law_1037 : decode cL_law 1037 = .ok (.iconst 1, 1) := by decide +kernel
theorem dL_law_1038 : decode cL_law 1038 = .ok (.iadd, 1) := by decide +kernel
theorem dL_law_1039 : decode cL_law 1039 = .ok (.iaload, 1) := by decide +kernel
theorem dL_law_1040 : decode cL_law 1040 = .ok (.invokevirtual 131, 3) := by decide +kernel
theorem dL_law_1043 : decode cL_law 1043 = .ok (.if_icmp .eq 5, 3) := by decide +kernel
theorem dL_law_1046 : decode cL_law 1046 = .ok (.iconst 0, 1) := by decide +kernel
theorem dL_law_1047 : decode cL_law 1047 = .ok (.ireturn, 1) := by decide +kernel
theorem dL_law_1048 : decode cL_law 1048 = .ok (.iinc 3 7, 3) := by decide +kernel
theorem dL_law_1051 : decode cL_law 1051 = .ok (.goto (-1033), 3) := by decide +kernel
theorem dL_law_1054 : decode cL_law 1054 = .ok (.iconst 1, 1) := by decide +kernel
theorem dL_law_1055 : decode cL_law 1055 = .ok (.ireturn, 1) := by decide +kernel
theorem dX0_init_0 : decode cX0_init 0 = .ok (.aload_n 0, 1) := by decide +kernel
theorem dX0_init_1 : decode cX0_init 1 = .ok (.invokespecial 3, 3) := by decide +kernel
theorem dX0_init_4 : decode cX0_init 4 = .ok (.aload_n 0, 1) := by decide +kernel
theorem dX0_init_5 : decode cX0_init 5 = .ok (.new 9, 3) := by decide +kernel
theorem dX0_init_8 : decode cX0_init 8 = .ok (.dup, 1) := by decide +kernel
theorem dX0_init_9 : decode cX0_init 9 = .ok (.iconst 4, 1) := by decide +kernel
theorem dX0_init_10 : decode cX0_init 10 = .ok (.invokespecial 13, 3) := by decide +kernel
theorem dX0_init_13 : decode cX0_init 13 = .ok (.invokevirtual 16, 3) := by decide +kernel
theorem dX0_init_16 : decode cX0_init 16 = .ok (.putfield 20, 3) := by decide +kernel
theorem dX0_init_19 : decode cX0_init 19 = .ok (.aload_n 0, 1) := by decide +kernel
theorem dX0_init_20 : decode cX0_init 20 = .ok (.new 9, 3) := by decide +kernel
theorem dX0_init_23 : decode cX0_init 23 = .ok (.dup, 1) := by decide +kernel
theorem dX0_init_24 : decode cX0_init 24 = .ok (.bipush 8, 2) := by decide +kernel
theorem dX0_init_26 : decode cX0_init 26 = .ok (.invokespecial 13, 3) := by decide +kernel
theorem dX0_init_29 : decode cX0_init 29 = .ok (.putfield 24, 3) := by decide +kernel
theorem dX0_init_32 : decode cX0_init 32 = .ok (.aload_n 0, 1) := by decide +kernel
theorem dX0_init_33 : decode cX0_init 33 = .ok (.new 9, 3) := by decide +kernel
theorem dX0_init_36 : decode cX0_init 36 = .ok (.dup, 1) := by decide +kernel
theorem dX0_init_37 : decode cX0_init 37 = .ok (.bipush 8, 2) := by decide +kernel
theorem dX0_init_39 : decode cX0_init 39 = .ok (.invokespecial 13, 3) := by decide +kernel
theorem dX0_init_42 : decode cX0_init 42 = .ok (.putfield 27, 3) := by decide +kernel
theorem dX0_init_45 : decode cX0_init 45 = .ok (.aload_n 0, 1) := by decide +kernel
theorem dX0_init_46 : decode cX0_init 46 = .ok (.new 9, 3) := by decide +kernel
theorem dX0_init_49 : decode cX0_init 49 = .ok (.dup, 1) := by decide +kernel
theorem dX0_init_50 : decode cX0_init 50 = .ok (.bipush 8, 2) := by decide +kernel
theorem dX0_init_52 : decode cX0_init 52 = .ok (.invokespecial 13, 3) := by decide +kernel
theorem dX0_init_55 : decode cX0_init 55 = .ok (.putfield 30, 3) := by decide +kernel
theorem dX0_init_58 : decode cX0_init 58 = .ok (.return_, 1) := by decide +kernel
theorem dX0_changePaths_0 : decode cX0_changePaths 0 = .ok (.aload_n 0, 1) := by decide +kernel
theorem dX0_changePaths_1 : decode cX0_changePaths 1 = .ok (.getfield 20, 3) := by decide +kernel
theorem dX0_changePaths_4 : decode cX0_changePaths 4 = .ok (.iload_n 1, 1) := by decide +kernel
theorem dX0_changePaths_5 : decode cX0_changePaths 5 = .ok (.invokevirtual 33, 3) := by decide +kernel
theorem dX0_changePaths_8 : decode cX0_changePaths 8 = .ok (.istore_n 3, 1) := by decide +kernel
theorem dX0_changePaths_9 : decode cX0_changePaths 9 = .ok (.aload_n 0, 1) := by decide +kernel
theorem dX0_changePaths_10 : decode cX0_changePaths 10 = .ok (.getfield 20, 3) := by decide +kernel
theorem dX0_changePaths_13 : decode cX0_changePaths 13 = .ok (.iload_n 1, 1) := by decide +kernel
theorem dX0_changePaths_14 : decode cX0_changePaths 14 = .ok (.iload_n 2, 1) := by decide +kernel
theorem dX0_changePaths_15 : decode cX0_changePaths 15 = .ok (.invokevirtual 37, 3) := by decide +kernel
theorem dX0_changePaths_18 : decode cX0_changePaths 18 = .ok (.iload_n 3, 1) := by decide +kernel
theorem dX0_changePaths_19 : decode cX0_changePaths 19 = .ok (.ireturn, 1) := by decide +kernel
theorem dX0_toldColours_0 : decode cX0_toldColours 0 = .ok (.aload_n 0, 1) := by decide +kernel
theorem dX0_toldColours_1 : decode cX0_toldColours 1 = .ok (.getfield 24, 3) := by decide +kernel
theorem dX0_toldColours_4 : decode cX0_toldColours 4 = .ok (.invokevirtual 41, 3) := by decide +kernel
theorem dX0_toldColours_7 : decode cX0_toldColours 7 = .ok (.ireturn, 1) := by decide +kernel
theorem dX0_tellColour_0 : decode cX0_tellColour 0 = .ok (.aload_n 0, 1) := by decide +kernel
theorem dX0_tellColour_1 : decode cX0_tellColour 1 = .ok (.getfield 27, 3) := by decide +kernel
theorem dX0_tellColour_4 : decode cX0_tellColour 4 = .ok (.iload_n 2, 1) := by decide +kernel
theorem dX0_tellColour_5 : decode cX0_tellColour 5 = .ok (.invokevirtual 45, 3) := by decide +kernel
theorem dX0_tellColour_8 : decode cX0_tellColour 8 = .ok (.pop, 1) := by decide +kernel
theorem dX0_tellColour_9 : decode cX0_tellColour 9 = .ok (.aload_n 0, 1) := by decide +kernel
theorem dX0_tellColour_10 : decode cX0_tellColour 10 = .ok (.getfield 30, 3) := by decide +kernel
theorem dX0_tellColour_13 : decode cX0_tellColour 13 = .ok (.iload_n 3, 1) := by decide +kernel
theorem dX0_tellColour_14 : decode cX0_tellColour 14 = .ok (.invokevirtual 45, 3) := by decide +kernel
theorem dX0_tellColour_17 : decode cX0_tellColour 17 = .ok (.pop, 1) := by decide +kernel
theorem dX0_tellColour_18 : decode cX0_tellColour 18 = .ok (.aload_n 0, 1) := by decide +kernel
theorem dX0_tellColour_19 : decode cX0_tellColour 19 = .ok (.getfield 24, 3) := by decide +kernel
theorem dX0_tellColour_22 : decode cX0_tellColour 22 = .ok (.iload_n 1, 1) := by decide +kernel
theorem dX0_tellColour_23 : decode cX0_tellColour 23 = .ok (.invokevirtual 45, 3) := by decide +kernel
theorem dX0_tellColour_26 : decode cX0_tellColour 26 = .ok (.ireturn, 1) := by decide +kernel
theorem dX0_ownersOf_0 : decode cX0_ownersOf 0 = .ok (.iconst 0, 1) := by decide +kernel
theorem dX0_ownersOf_1 : decode cX0_ownersOf 1 = .ok (.istore 5, 2) := by decide +kernel
theorem dX0_ownersOf_3 : decode cX0_ownersOf 3 = .ok (.iconst 0, 1) := by decide +kernel
theorem dX0_ownersOf_4 : decode cX0_ownersOf 4 = .ok (.istore 6, 2) := by decide +kernel
theorem dX0_ownersOf_6 : decode cX0_ownersOf 6 = .ok (.iload 6, 2) := by decide +kernel
theorem dX0_ownersOf_8 : decode cX0_ownersOf 8 = .ok (.iconst 4, 1) := by decide +kernel
theorem dX0_ownersOf_9 : decode cX0_ownersOf 9 = .ok (.if_icmp .ge 91, 3) := by decide +kernel
theorem dX0_ownersOf_12 : decode cX0_ownersOf 12 = .ok (.aload_n 0, 1) := by decide +kernel
theorem dX0_ownersOf_13 : decode cX0_ownersOf 13 = .ok (.iload 6, 2) := by decide +kernel
theorem dX0_ownersOf_15 : decode cX0_ownersOf 15 = .ok (.iload_n 3, 1) := by decide +kernel
theorem dX0_ownersOf_16 : decode cX0_ownersOf 16 = .ok (.invokevirtual 48, 3) := by decide +kernel
theorem dX0_ownersOf_19 : decode cX0_ownersOf 19 = .ok (.iload_n 2, 1) := by decide +kernel
theorem dX0_ownersOf_20 : decode cX0_ownersOf 20 = .ok (.if_icmp .ne 7, 3) := by decide +kernel
theorem dX0_ownersOf_23 : decode cX0_ownersOf 23 = .ok (.iconst 1, 1) := by decide +kernel
theorem dX0_ownersOf_24 : decode cX0_ownersOf 24 = .ok (.goto 4, 3) := by decide +kernel
theorem dX0_ownersOf_27 : decode cX0_ownersOf 27 = .ok (.iconst 0, 1) := by decide +kernel
theorem dX0_ownersOf_28 : decode cX0_ownersOf 28 = .ok (.istore 7, 2) := by decide +kernel
theorem dX0_ownersOf_30 : decode cX0_ownersOf 30 = .ok (.iload 4, 2) := by decide +kernel
theorem dX0_ownersOf_32 : decode cX0_ownersOf 32 = .ok (.ifCond .eq 27, 3) := by decide +kernel
theorem dX0_ownersOf_35 : decode cX0_ownersOf 35 = .ok (.iload 7, 2) := by decide +kernel
theorem dX0_ownersOf_37 : decode cX0_ownersOf 37 = .ok (.ifCond .ne 18, 3) := by decide +kernel
theorem dX0_ownersOf_40 : decode cX0_ownersOf 40 = .ok (.aload_n 0, 1) := by decide +kernel
theorem dX0_ownersOf_41 : decode cX0_ownersOf 41 = .ok (.iload 6, 2) := by decide +kernel
theorem dX0_ownersOf_43 : decode cX0_ownersOf 43 = .ok (.iload_n 2, 1) := by decide +kernel
theorem dX0_ownersOf_44 : decode cX0_ownersOf 44 = .ok (.iload_n 3, 1) := by decide +kernel
theorem dX0_ownersOf_45 : decode cX0_ownersOf 45 = .ok (.invokevirtual 52, 3) := by decide +kernel
theorem dX0_ownersOf_48 : decode cX0_ownersOf 48 = .ok (.ifCond .eq 7, 3) := by decide +kernel
theorem dX0_ownersOf_51 : decode cX0_ownersOf 51 = .ok (.iconst 1, 1) := by decide +kernel
theorem dX0_ownersOf_52 : decode cX0_ownersOf 52 = .ok (.goto 9, 3) := by decide +kernel
theorem dX0_ownersOf_55 : decode cX0_ownersOf 55 = .ok (.iconst 0, 1) := by decide +kernel
theorem dX0_ownersOf_56 : decode cX0_ownersOf 56 = .ok (.goto 5, 3) := by decide +kernel
theorem dX0_ownersOf_59 : decode cX0_ownersOf 59 = .ok (.iload 7, 2) := by decide +kernel
theorem dX0_ownersOf_61 : decode cX0_ownersOf 61 = .ok (.istore 8, 2) := by decide +kernel
theorem dX0_ownersOf_63 : decode cX0_ownersOf 63 = .ok (.iload 8, 2) := by decide +kernel
theorem dX0_ownersOf_65 : decode cX0_ownersOf 65 = .ok (.ifCond .eq 29, 3) := by decide +kernel
theorem dX0_ownersOf_68 : decode cX0_ownersOf 68 = .ok (.aload_n 0, 1) := by decide +kernel
theorem dX0_ownersOf_69 : decode cX0_ownersOf 69 = .ok (.getfield 20, 3) := by decide +kernel
theorem dX0_ownersOf_72 : decode cX0_ownersOf 72 = .ok (.iload 6, 2) := by decide +kernel
theorem dX0_ownersOf_74 : decode cX0_ownersOf 74 = .ok (.invokevirtual 33, 3) := by decide +kernel
theorem dX0_ownersOf_77 : decode cX0_ownersOf 77 = .ok (.iload_n 1, 1) := by decide +kernel
theorem dX0_ownersOf_78 : decode cX0_ownersOf 78 = .ok (.invokestatic 56, 3) := by decide +kernel
theorem dX0_ownersOf_81 : decode cX0_ownersOf 81 = .ok (.iand, 1) := by decide +kernel
theorem dX0_ownersOf_82 : decode cX0_ownersOf 82 = .ok (.ifCond .eq 12, 3) := by decide +kernel
theorem dX0_ownersOf_85 : decode cX0_ownersOf 85 = .ok (.iload 5, 2) := by decide +kernel
theorem dX0_ownersOf_87 : decode cX0_ownersOf 87 = .ok (.iconst 1, 1) := by decide +kernel
theorem dX0_ownersOf_88 : decode cX0_ownersOf 88 = .ok (.iload 6, 2) := by decide +kernel
theorem dX0_ownersOf_90 : decode cX0_ownersOf 90 = .ok (.ishl, 1) := by decide +kernel
theorem dX0_ownersOf_91 : decode cX0_ownersOf 91 = .ok (.ior, 1) := by decide +kernel
theorem dX0_ownersOf_92 : decode cX0_ownersOf 92 = .ok (.istore 5, 2) := by decide +kernel
theorem dX0_ownersOf_94 : decode cX0_ownersOf 94 = .ok (.iinc 6 1, 3) := by decide +kernel
theorem dX0_ownersOf_97 : decode cX0_ownersOf 97 = .ok (.goto (-91), 3) := by decide +kernel
theorem dX0_ownersOf_100 : decode cX0_ownersOf 100 = .ok (.iload 5, 2) := by decide +kernel
theorem dX0_ownersOf_102 : decode cX0_ownersOf 102 = .ok (.ireturn, 1) := by decide +kernel
theorem dX0_lastHue_0 : decode cX0_lastHue 0 = .ok (.iconst (-1), 1) := by decide +kernel
theorem dX0_lastHue_1 : decode cX0_lastHue 1 = .ok (.istore_n 3, 1) := by decide +kernel
theorem dX0_lastHue_2 : decode cX0_lastHue 2 = .ok (.iconst 0, 1) := by decide +kernel
theorem dX0_lastHue_3 : decode cX0_lastHue 3 = .ok (.istore 4, 2) := by decide +kernel
theorem dX0_lastHue_5 : decode cX0_lastHue 5 = .ok (.iconst 0, 1) := by decide +kernel
theorem dX0_lastHue_6 : decode cX0_lastHue 6 = .ok (.istore 5, 2) := by decide +kernel
theorem dX0_lastHue_8 : decode cX0_lastHue 8 = .ok (.iload 5, 2) := by decide +kernel
theorem dX0_lastHue_10 : decode cX0_lastHue 10 = .ok (.aload_n 0, 1) := by decide +kernel
theorem dX0_lastHue_11 : decode cX0_lastHue 11 = .ok (.invokevirtual 59, 3) := by decide +kernel
theorem dX0_lastHue_14 : decode cX0_lastHue 14 = .ok (.if_icmp .ge 60, 3) := by decide +kernel
theorem dX0_lastHue_17 : decode cX0_lastHue 17 = .ok (.aload_n 0, 1) := by decide +kernel
theorem dX0_lastHue_18 : decode cX0_lastHue 18 = .ok (.getfield 30, 3) := by decide +kernel
theorem dX0_lastHue_21 : decode cX0_lastHue 21 = .ok (.iload 5, 2) := by decide +kernel
theorem dX0_lastHue_23 : decode cX0_lastHue 23 = .ok (.invokevirtual 33, 3) := by decide +kernel
theorem dX0_lastHue_26 : decode cX0_lastHue 26 = .ok (.istore 6, 2) := by decide +kernel
theorem dX0_lastHue_28 : decode cX0_lastHue 28 = .ok (.aload_n 0, 1) := by decide +kernel
theorem dX0_lastHue_29 : decode cX0_lastHue 29 = .ok (.getfield 24, 3) := by decide +kernel
theorem dX0_lastHue_32 : decode cX0_lastHue 32 = .ok (.iload 5, 2) := by decide +kernel
theorem dX0_lastHue_34 : decode cX0_lastHue 34 = .ok (.invokevirtual 33, 3) := by decide +kernel
theorem dX0_lastHue_37 : decode cX0_lastHue 37 = .ok (.iload_n 1, 1) := by decide +kernel
theorem dX0_lastHue_38 : decode cX0_lastHue 38 = .ok (.if_icmp .ne 30, 3) := by decide +kernel
theorem dX0_lastHue_41 : decode cX0_lastHue 41 = .ok (.iload 6, 2) := by decide +kernel
theorem dX0_lastHue_43 : decode cX0_lastHue 43 = .ok (.iload_n 2, 1) := by decide +kernel
theorem dX0_lastHue_44 : decode cX0_lastHue 44 = .ok (.if_icmp .gt 24, 3) := by decide +kernel
theorem dX0_lastHue_47 : decode cX0_lastHue 47 = .ok (.iload 6, 2) := by decide +kernel
theorem dX0_lastHue_49 : decode cX0_lastHue 49 = .ok (.iload 4, 2) := by decide +kernel
theorem dX0_lastHue_51 : decode cX0_lastHue 51 = .ok (.if_icmp .lt 17, 3) := by decide +kernel
theorem dX0_lastHue_54 : decode cX0_lastHue 54 = .ok (.aload_n 0, 1) := by decide +kernel
theorem dX0_lastHue_55 : decode cX0_lastHue 55 = .ok (.getfield 27, 3) := by decide +kernel
theorem dX0_lastHue_58 : decode cX0_lastHue 58 = .ok (.iload 5, 2) := by decide +kernel
theorem dX0_lastHue_60 : decode cX0_lastHue 60 = .ok (.invokevirtual 33, 3) := by decide +kernel
theorem dX0_lastHue_63 : decode cX0_lastHue 63 = .ok (.istore_n 3, 1) := by decide +kernel
theorem dX0_lastHue_64 : decode cX0_lastHue 64 = .ok (.iload 6, 2) := by decide +kernel
theorem dX0_lastHue_66 : decode cX0_lastHue 66 = .ok (.istore 4, 2) := by decide +kernel
theorem dX0_lastHue_68 : decode cX0_lastHue 68 = .ok (.iinc 5 1, 3) := by decide +kernel
theorem dX0_lastHue_71 : decode cX0_lastHue 71 = .ok (.goto (-63), 3) := by decide +kernel
theorem dX0_lastHue_74 : decode cX0_lastHue 74 = .ok (.iload_n 3, 1) := by decide +kernel
theorem dX0_lastHue_75 : decode cX0_lastHue 75 = .ok (.ireturn, 1) := by decide +kernel
theorem dX0_everHad_0 : decode cX0_everHad 0 = .ok (.iconst 0, 1) := by decide +kernel
theorem dX0_everHad_1 : decode cX0_everHad 1 = .ok (.istore 4, 2) := by decide +kernel
theorem dX0_everHad_3 : decode cX0_everHad 3 = .ok (.iload 4, 2) := by decide +kernel
theorem dX0_everHad_5 : decode cX0_everHad 5 = .ok (.aload_n 0, 1) := by decide +kernel
theorem dX0_everHad_6 : decode cX0_everHad 6 = .ok (.invokevirtual 59, 3) := by decide +kernel
theorem dX0_everHad_9 : decode cX0_everHad 9 = .ok (.if_icmp .ge 50, 3) := by decide +kernel
theorem dX0_everHad_12 : decode cX0_everHad 12 = .ok (.aload_n 0, 1) := by decide +kernel
theorem dX0_everHad_13 : decode cX0_everHad 13 = .ok (.getfield 24, 3) := by decide +kernel
theorem dX0_everHad_16 : decode cX0_everHad 16 = .ok (.iload 4, 2) := by decide +kernel
theorem dX0_everHad_18 : decode cX0_everHad 18 = .ok (.invokevirtual 33, 3) := by decide +kernel
theorem dX0_everHad_21 : decode cX0_everHad 21 = .ok (.iload_n 1, 1) := by decide +kernel
theorem dX0_everHad_22 : decode cX0_everHad 22 = .ok (.if_icmp .ne 31, 3) := by decide +kernel
theorem dX0_everHad_25 : decode cX0_everHad 25 = .ok (.aload_n 0, 1) := by decide +kernel
theorem dX0_everHad_26 : decode cX0_everHad 26 = .ok (.getfield 27, 3) := by decide +kernel
theorem dX0_everHad_29 : decode cX0_everHad 29 = .ok (.iload 4, 2) := by decide +kernel
theorem dX0_everHad_31 : decode cX0_everHad 31 = .ok (.invokevirtual 33, 3) := by decide +kernel
theorem dX0_everHad_34 : decode cX0_everHad 34 = .ok (.iload_n 2, 1) := by decide +kernel
theorem dX0_everHad_35 : decode cX0_everHad 35 = .ok (.if_icmp .ne 18, 3) := by decide +kernel
theorem dX0_everHad_38 : decode cX0_everHad 38 = .ok (.aload_n 0, 1) := by decide +kernel
theorem dX0_everHad_39 : decode cX0_everHad 39 = .ok (.getfield 30, 3) := by decide +kernel
theorem dX0_everHad_42 : decode cX0_everHad 42 = .ok (.iload 4, 2) := by decide +kernel
theorem dX0_everHad_44 : decode cX0_everHad 44 = .ok (.invokevirtual 33, 3) := by decide +kernel
theorem dX0_everHad_47 : decode cX0_everHad 47 = .ok (.iload_n 3, 1) := by decide +kernel
theorem dX0_everHad_48 : decode cX0_everHad 48 = .ok (.if_icmp .gt 5, 3) := by decide +kernel
theorem dX0_everHad_51 : decode cX0_everHad 51 = .ok (.iconst 1, 1) := by decide +kernel
theorem dX0_everHad_52 : decode cX0_everHad 52 = .ok (.ireturn, 1) := by decide +kernel
theorem dX0_everHad_53 : decode cX0_everHad 53 = .ok (.iinc 4 1, 3) := by decide +kernel
theorem dX0_everHad_56 : decode cX0_everHad 56 = .ok (.goto (-53), 3) := by decide +kernel
theorem dX0_everHad_59 : decode cX0_everHad 59 = .ok (.iconst 0, 1) := by decide +kernel
theorem dX0_everHad_60 : decode cX0_everHad 60 = .ok (.ireturn, 1) := by decide +kernel
theorem dX1_init_0 : decode cX1_init 0 = .ok (.aload_n 0, 1) := by decide +kernel
theorem dX1_init_1 : decode cX1_init 1 = .ok (.invokespecial 1, 3) := by decide +kernel
theorem dX1_init_4 : decode cX1_init 4 = .ok (.aload_n 0, 1) := by decide +kernel
theorem dX1_init_5 : decode cX1_init 5 = .ok (.new 7, 3) := by decide +kernel
theorem dX1_init_8 : decode cX1_init 8 = .ok (.dup, 1) := by decide +kernel
theorem dX1_init_9 : decode cX1_init 9 = .ok (.iconst 5, 1) := by decide +kernel
theorem dX1_init_10 : decode cX1_init 10 = .ok (.invokespecial 11, 3) := by decide +kernel
theorem dX1_init_13 : decode cX1_init 13 = .ok (.putfield 14, 3) := by decide +kernel
theorem dX1_init_16 : decode cX1_init 16 = .ok (.aload_n 0, 1) := by decide +kernel
theorem dX1_init_17 : decode cX1_init 17 = .ok (.new 7, 3) := by decide +kernel
theorem dX1_init_20 : decode cX1_init 20 = .ok (.dup, 1) := by decide +kernel
theorem dX1_init_21 : decode cX1_init 21 = .ok (.iconst 5, 1) := by decide +kernel
theorem dX1_init_22 : decode cX1_init 22 = .ok (.invokespecial 11, 3) := by decide +kernel
theorem dX1_init_25 : decode cX1_init 25 = .ok (.invokevirtual 18, 3) := by decide +kernel
theorem dX1_init_28 : decode cX1_init 28 = .ok (.putfield 22, 3) := by decide +kernel
theorem dX1_init_31 : decode cX1_init 31 = .ok (.aload_n 0, 1) := by decide +kernel
theorem dX1_init_32 : decode cX1_init 32 = .ok (.new 7, 3) := by decide +kernel
theorem dX1_init_35 : decode cX1_init 35 = .ok (.dup, 1) := by decide +kernel
theorem dX1_init_36 : decode cX1_init 36 = .ok (.iconst 5, 1) := by decide +kernel
theorem dX1_init_37 : decode cX1_init 37 = .ok (.invokespecial 11, 3) := by decide +kernel
theorem dX1_init_40 : decode cX1_init 40 = .ok (.invokevirtual 18, 3) := by decide +kernel
theorem dX1_init_43 : decode cX1_init 43 = .ok (.putfield 25, 3) := by decide +kernel
theorem dX1_init_46 : decode cX1_init 46 = .ok (.return_, 1) := by decide +kernel
theorem dX1_branchCount_0 : decode cX1_branchCount 0 = .ok (.aload_n 0, 1) := by decide +kernel
theorem dX1_branchCount_1 : decode cX1_branchCount 1 = .ok (.getfield 14, 3) := by decide +kernel
theorem dX1_branchCount_4 : decode cX1_branchCount 4 = .ok (.invokevirtual 28, 3) := by decide +kernel
theorem dX1_branchCount_7 : decode cX1_branchCount 7 = .ok (.ireturn, 1) := by decide +kernel
theorem dX1_grow_0 : decode cX1_grow 0 = .ok (.aload_n 0, 1) := by decide +kernel
theorem dX1_grow_1 : decode cX1_grow 1 = .ok (.getfield 14, 3) := by decide +kernel
theorem dX1_grow_4 : decode cX1_grow 4 = .ok (.iload_n 1, 1) := by decide +kernel
theorem dX1_grow_5 : decode cX1_grow 5 = .ok (.invokevirtual 32, 3) := by decide +kernel
theorem dX1_grow_8 : decode cX1_grow 8 = .ok (.ireturn, 1) := by decide +kernel
theorem dX1_dropAll_0 : decode cX1_dropAll 0 = .ok (.aload_n 0, 1) := by decide +kernel
theorem dX1_dropAll_1 : decode cX1_dropAll 1 = .ok (.getfield 14, 3) := by decide +kernel
theorem dX1_dropAll_4 : decode cX1_dropAll 4 = .ok (.invokevirtual 36, 3) := by decide +kernel
theorem dX1_dropAll_7 : decode cX1_dropAll 7 = .ok (.ireturn, 1) := by decide +kernel
theorem dX1_houndOf_0 : decode cX1_houndOf 0 = .ok (.aload_n 0, 1) := by decide +kernel
theorem dX1_houndOf_1 : decode cX1_houndOf 1 = .ok (.getfield 25, 3) := by decide +kernel
theorem dX1_houndOf_4 : decode cX1_houndOf 4 = .ok (.iload_n 1, 1) := by decide +kernel
theorem dX1_houndOf_5 : decode cX1_houndOf 5 = .ok (.invokevirtual 39, 3) := by decide +kernel
theorem dX1_houndOf_8 : decode cX1_houndOf 8 = .ok (.ireturn, 1) := by decide +kernel
theorem dX1_findBestSplit_0 : decode cX1_findBestSplit 0 = .ok (.iconst 0, 1) := by decide +kernel
theorem dX1_findBestSplit_1 : decode cX1_findBestSplit 1 = .ok (.istore_n 2, 1) := by decide +kernel
theorem dX1_findBestSplit_2 : decode cX1_findBestSplit 2 = .ok (.iload_n 2, 1) := by decide +kernel
theorem dX1_findBestSplit_3 : decode cX1_findBestSplit 3 = .ok (.aload_n 0, 1) := by decide +kernel
theorem dX1_findBestSplit_4 : decode cX1_findBestSplit 4 = .ok (.invokevirtual 42, 3) := by decide +kernel
theorem dX1_findBestSplit_7 : decode cX1_findBestSplit 7 = .ok (.if_icmp .ge 18, 3) := by decide +kernel
theorem dX1_findBestSplit_10 : decode cX1_findBestSplit 10 = .ok (.aload_n 0, 1) := by decide +kernel
theorem dX1_findBestSplit_11 : decode cX1_findBestSplit 11 = .ok (.getfield 22, 3) := by decide +kernel
theorem dX1_findBestSplit_14 : decode cX1_findBestSplit 14 = .ok (.iload_n 2, 1) := by decide +kernel
theorem dX1_findBestSplit_15 : decode cX1_findBestSplit 15 = .ok (.iconst 0, 1) := by decide +kernel
theorem dX1_findBestSplit_16 : decode cX1_findBestSplit 16 = .ok (.invokevirtual 45, 3) := by decide +kernel
theorem dX1_findBestSplit_19 : decode cX1_findBestSplit 19 = .ok (.iinc 2 1, 3) := by decide +kernel
theorem dX1_findBestSplit_22 : decode cX1_findBestSplit 22 = .ok (.goto (-20), 3) := by decide +kernel
theorem dX1_findBestSplit_25 : decode cX1_findBestSplit 25 = .ok (.aload_n 0, 1) := by decide +kernel
theorem dX1_findBestSplit_26 : decode cX1_findBestSplit 26 = .ok (.iload_n 1, 1) := by decide +kernel
theorem dX1_findBestSplit_27 : decode cX1_findBestSplit 27 = .ok (.invokevirtual 49, 3) := by decide +kernel
theorem dX1_findBestSplit_30 : decode cX1_findBestSplit 30 = .ok (.istore_n 2, 1) := by decide +kernel
theorem dX1_findBestSplit_31 : decode cX1_findBestSplit 31 = .ok (.aload_n 0, 1) := by decide +kernel
theorem dX1_findBestSplit_32 : decode cX1_findBestSplit 32 = .ok (.invokevirtual 52, 3) := by decide +kernel
theorem dX1_findBestSplit_35 : decode cX1_findBestSplit 35 = .ok (.iconst 1, 1) := by decide +kernel
theorem dX1_findBestSplit_36 : decode cX1_findBestSplit 36 = .ok (.istore_n 3, 1) := by decide +kernel
theorem dX1_findBestSplit_37 : decode cX1_findBestSplit 37 = .ok (.iload_n 3, 1) := by decide +kernel
theorem dX1_findBestSplit_38 : decode cX1_findBestSplit 38 = .ok (.sipush 243, 3) := by decide +kernel
theorem dX1_findBestSplit_41 : decode cX1_findBestSplit 41 = .ok (.if_icmp .ge 37, 3) := by decide +kernel
theorem dX1_findBestSplit_44 : decode cX1_findBestSplit 44 = .ok (.aload_n 0, 1) := by decide +kernel
theorem dX1_findBestSplit_45 : decode cX1_findBestSplit 45 = .ok (.iload_n 1, 1) := by decide +kernel
theorem dX1_findBestSplit_46 : decode cX1_findBestSplit 46 = .ok (.invokevirtual 55, 3) := by decide +kernel
theorem dX1_findBestSplit_49 : decode cX1_findBestSplit 49 = .ok (.ifCond .eq 29, 3) := by decide +kernel
theorem dX1_findBestSplit_52 : decode cX1_findBestSplit 52 = .ok (.aload_n 0, 1) := by decide +kernel
theorem dX1_findBestSplit_53 : decode cX1_findBestSplit 53 = .ok (.iload_n 1, 1) := by decide +kernel
theorem dX1_findBestSplit_54 : decode cX1_findBestSplit 54 = .ok (.invokevirtual 49, 3) := by decide +kernel
theorem dX1_findBestSplit_57 : decode cX1_findBestSplit 57 = .ok (.istore 4, 2) := by decide +kernel
theorem dX1_findBestSplit_59 : decode cX1_findBestSplit 59 = .ok (.iload 4, 2) := by decide +kernel
theorem dX1_findBestSplit_61 : decode cX1_findBestSplit 61 = .ok (.iload_n 2, 1) := by decide +kernel
theorem dX1_findBestSplit_62 : decode cX1_findBestSplit 62 = .ok (.if_icmp .ge 10, 3) := by decide +kernel
theorem dX1_findBestSplit_65 : decode cX1_findBestSplit 65 = .ok (.iload 4, 2) := by decide +kernel
theorem dX1_findBestSplit_67 : decode cX1_findBestSplit 67 = .ok (.istore_n 2, 1) := by decide +kernel
theorem dX1_findBestSplit_68 : decode cX1_findBestSplit 68 = .ok (.aload_n 0, 1) := by decide +kernel
theorem dX1_findBestSplit_69 : decode cX1_findBestSplit 69 = .ok (.invokevirtual 52, 3) := by decide +kernel
theorem dX1_findBestSplit_72 : decode cX1_findBestSplit 72 = .ok (.iinc 3 1, 3) := by decide +kernel
theorem dX1_findBestSplit_75 : decode cX1_findBestSplit 75 = .ok (.goto (-38), 3) := by decide +kernel
theorem dX1_findBestSplit_78 : decode cX1_findBestSplit 78 = .ok (.iload_n 2, 1) := by decide +kernel
theorem dX1_findBestSplit_79 : decode cX1_findBestSplit 79 = .ok (.ireturn, 1) := by decide +kernel
theorem dX1_keepTried_0 : decode cX1_keepTried 0 = .ok (.iconst 0, 1) := by decide +kernel
theorem dX1_keepTried_1 : decode cX1_keepTried 1 = .ok (.istore_n 1, 1) := by decide +kernel
theorem dX1_keepTried_2 : decode cX1_keepTried 2 = .ok (.iload_n 1, 1) := by decide +kernel
theorem dX1_keepTried_3 : decode cX1_keepTried 3 = .ok (.aload_n 0, 1) := by decide +kernel
theorem dX1_keepTried_4 : decode cX1_keepTried 4 = .ok (.invokevirtual 42, 3) := by decide +kernel
theorem dX1_keepTried_7 : decode cX1_keepTried 7 = .ok (.if_icmp .ge 25, 3) := by decide +kernel
theorem dX1_keepTried_10 : decode cX1_keepTried 10 = .ok (.aload_n 0, 1) := by decide +kernel
theorem dX1_keepTried_11 : decode cX1_keepTried 11 = .ok (.getfield 25, 3) := by decide +kernel
theorem dX1_keepTried_14 : decode cX1_keepTried 14 = .ok (.iload_n 1, 1) := by decide +kernel
theorem dX1_keepTried_15 : decode cX1_keepTried 15 = .ok (.aload_n 0, 1) := by decide +kernel
theorem dX1_keepTried_16 : decode cX1_keepTried 16 = .ok (.getfield 22, 3) := by decide +kernel
theorem dX1_keepTried_19 : decode cX1_keepTried 19 = .ok (.iload_n 1, 1) := by decide +kernel
theorem dX1_keepTried_20 : decode cX1_keepTried 20 = .ok (.invokevirtual 39, 3) := by decide +kernel
theorem dX1_keepTried_23 : decode cX1_keepTried 23 = .ok (.invokevirtual 45, 3) := by decide +kernel
theorem dX1_keepTried_26 : decode cX1_keepTried 26 = .ok (.iinc 1 1, 3) := by decide +kernel
theorem dX1_keepTried_29 : decode cX1_keepTried 29 = .ok (.goto (-27), 3) := by decide +kernel
theorem dX1_keepTried_32 : decode cX1_keepTried 32 = .ok (.return_, 1) := by decide +kernel
theorem dX1_takeNextSplit_0 : decode cX1_takeNextSplit 0 = .ok (.aload_n 0, 1) := by decide +kernel
theorem dX1_takeNextSplit_1 : decode cX1_takeNextSplit 1 = .ok (.invokevirtual 42, 3) := by decide +kernel
theorem dX1_takeNextSplit_4 : decode cX1_takeNextSplit 4 = .ok (.iconst 1, 1) := by decide +kernel
theorem dX1_takeNextSplit_5 : decode cX1_takeNextSplit 5 = .ok (.isub, 1) := by decide +kernel
theorem dX1_takeNextSplit_6 : decode cX1_takeNextSplit 6 = .ok (.istore_n 2, 1) := by decide +kernel
theorem dX1_takeNextSplit_7 : decode cX1_takeNextSplit 7 = .ok (.iload_n 2, 1) := by decide +kernel
theorem dX1_takeNextSplit_8 : decode cX1_takeNextSplit 8 = .ok (.ifCond .lt 45, 3) := by decide +kernel
theorem dX1_takeNextSplit_11 : decode cX1_takeNextSplit 11 = .ok (.aload_n 0, 1) := by decide +kernel
theorem dX1_takeNextSplit_12 : decode cX1_takeNextSplit 12 = .ok (.getfield 22, 3) := by decide +kernel
theorem dX1_takeNextSplit_15 : decode cX1_takeNextSplit 15 = .ok (.iload_n 2, 1) := by decide +kernel
theorem dX1_takeNextSplit_16 : decode cX1_takeNextSplit 16 = .ok (.invokevirtual 39, 3) := by decide +kernel
theorem dX1_takeNextSplit_19 : decode cX1_takeNextSplit 19 = .ok (.iconst 1, 1) := by decide +kernel
theorem dX1_takeNextSplit_20 : decode cX1_takeNextSplit 20 = .ok (.iadd, 1) := by decide +kernel
theorem dX1_takeNextSplit_21 : decode cX1_takeNextSplit 21 = .ok (.istore_n 3, 1) := by decide +kernel
theorem dX1_takeNextSplit_22 : decode cX1_takeNextSplit 22 = .ok (.iload_n 3, 1) := by decide +kernel
theorem dX1_takeNextSplit_23 : decode cX1_takeNextSplit 23 = .ok (.iload_n 1, 1) := by decide +kernel
theorem dX1_takeNextSplit_24 : decode cX1_takeNextSplit 24 = .ok (.if_icmp .ge 14, 3) := by decide +kernel
theorem dX1_takeNextSplit_27 : decode cX1_takeNextSplit 27 = .ok (.aload_n 0, 1) := by decide +kernel
theorem dX1_takeNextSplit_28 : decode cX1_takeNextSplit 28 = .ok (.getfield 22, 3) := by decide +kernel
theorem dX1_takeNextSplit_31 : decode cX1_takeNextSplit 31 = .ok (.iload_n 2, 1) := by decide +kernel
theorem dX1_takeNextSplit_32 : decode cX1_takeNextSplit 32 = .ok (.iload_n 3, 1) := by decide +kernel
theorem dX1_takeNextSplit_33 : decode cX1_takeNextSplit 33 = .ok (.invokevirtual 45, 3) := by decide +kernel
theorem dX1_takeNextSplit_36 : decode cX1_takeNextSplit 36 = .ok (.iconst 1, 1) := by decide +kernel
theorem dX1_takeNextSplit_37 : decode cX1_takeNextSplit 37 = .ok (.ireturn, 1) := by decide +kernel
theorem dX1_takeNextSplit_38 : decode cX1_takeNextSplit 38 = .ok (.aload_n 0, 1) := by decide +kernel
theorem dX1_takeNextSplit_39 : decode cX1_takeNextSplit 39 = .ok (.getfield 22, 3) := by decide +kernel
theorem dX1_takeNextSplit_42 : decode cX1_takeNextSplit 42 = .ok (.iload_n 2, 1) := by decide +kernel
theorem dX1_takeNextSplit_43 : decode cX1_takeNextSplit 43 = .ok (.iconst 0, 1) := by decide +kernel
theorem dX1_takeNextSplit_44 : decode cX1_takeNextSplit 44 = .ok (.invokevirtual 45, 3) := by decide +kernel
theorem dX1_takeNextSplit_47 : decode cX1_takeNextSplit 47 = .ok (.iinc 2 (-1), 3) := by decide +kernel
theorem dX1_takeNextSplit_50 : decode cX1_takeNextSplit 50 = .ok (.goto (-43), 3) := by decide +kernel
theorem dX1_takeNextSplit_53 : decode cX1_takeNextSplit 53 = .ok (.iconst 0, 1) := by decide +kernel
theorem dX1_takeNextSplit_54 : decode cX1_takeNextSplit 54 = .ok (.ireturn, 1) := by decide +kernel
theorem dX1_worstTime_0 : decode cX1_worstTime 0 = .ok (.iconst 0, 1) := by decide +kernel
theorem dX1_worstTime_1 : decode cX1_worstTime 1 = .ok (.istore_n 2, 1) := by decide +kernel
theorem dX1_worstTime_2 : decode cX1_worstTime 2 = .ok (.iconst 0, 1) := by decide +kernel
theorem dX1_worstTime_3 : decode cX1_worstTime 3 = .ok (.istore_n 3, 1) := by decide +kernel
theorem dX1_worstTime_4 : decode cX1_worstTime 4 = .ok (.iload_n 3, 1) := by decide +kernel
theorem dX1_worstTime_5 : decode cX1_worstTime 5 = .ok (.iload_n 1, 1) := by decide +kernel
theorem dX1_worstTime_6 : decode cX1_worstTime 6 = .ok (.if_icmp .ge 89, 3) := by decide +kernel
theorem dX1_worstTime_9 : decode cX1_worstTime 9 = .ok (.iconst 0, 1) := by decide +kernel
theorem dX1_worstTime_10 : decode cX1_worstTime 10 = .ok (.istore 4, 2) := by decide +kernel
theorem dX1_worstTime_12 : decode cX1_worstTime 12 = .ok (.iconst 0, 1) := by decide +kernel
theorem dX1_worstTime_13 : decode cX1_worstTime 13 = .ok (.istore 5, 2) := by decide +kernel
theorem dX1_worstTime_15 : decode cX1_worstTime 15 = .ok (.iconst 0, 1) := by decide +kernel
theorem dX1_worstTime_16 : decode cX1_worstTime 16 = .ok (.istore 6, 2) := by decide +kernel
theorem dX1_worstTime_18 : decode cX1_worstTime 18 = .ok (.iload 6, 2) := by decide +kernel
theorem dX1_worstTime_20 : decode cX1_worstTime 20 = .ok (.aload_n 0, 1) := by decide +kernel
theorem dX1_worstTime_21 : decode cX1_worstTime 21 = .ok (.invokevirtual 42, 3) := by decide +kernel
theorem dX1_worstTime_24 : decode cX1_worstTime 24 = .ok (.if_icmp .ge 53, 3) := by decide +kernel
theorem dX1_worstTime_27 : decode cX1_worstTime 27 = .ok (.aload_n 0, 1) := by decide +kernel
theorem dX1_worstTime_28 : decode cX1_worstTime 28 = .ok (.getfield 22, 3) := by decide +kernel
theorem dX1_worstTime_31 : decode cX1_worstTime 31 = .ok (.iload 6, 2) := by decide +kernel
theorem dX1_worstTime_33 : decode cX1_worstTime 33 = .ok (.invokevirtual 39, 3) := by decide +kernel
theorem dX1_worstTime_36 : decode cX1_worstTime 36 = .ok (.iload_n 3, 1) := by decide +kernel
theorem dX1_worstTime_37 : decode cX1_worstTime 37 = .ok (.if_icmp .ne 15, 3) := by decide +kernel
theorem dX1_worstTime_40 : decode cX1_worstTime 40 = .ok (.aload_n 0, 1) := by decide +kernel
theorem dX1_worstTime_41 : decode cX1_worstTime 41 = .ok (.getfield 14, 3) := by decide +kernel
theorem dX1_worstTime_44 : decode cX1_worstTime 44 = .ok (.iload 6, 2) := by decide +kernel
theorem dX1_worstTime_46 : decode cX1_worstTime 46 = .ok (.invokevirtual 39, 3) := by decide +kernel
theorem dX1_worstTime_49 : decode cX1_worstTime 49 = .ok (.goto 4, 3) := by decide +kernel
theorem dX1_worstTime_52 : decode cX1_worstTime 52 = .ok (.iconst 0, 1) := by decide +kernel
theorem dX1_worstTime_53 : decode cX1_worstTime 53 = .ok (.istore 7, 2) := by decide +kernel
theorem dX1_worstTime_55 : decode cX1_worstTime 55 = .ok (.iload 4, 2) := by decide +kernel
theorem dX1_worstTime_57 : decode cX1_worstTime 57 = .ok (.iload 7, 2) := by decide +kernel
theorem dX1_worstTime_59 : decode cX1_worstTime 59 = .ok (.iadd, 1) := by decide +kernel
theorem dX1_worstTime_60 : decode cX1_worstTime 60 = .ok (.istore 4, 2) := by decide +kernel
theorem dX1_worstTime_62 : decode cX1_worstTime 62 = .ok (.iload 5, 2) := by decide +kernel
theorem dX1_worstTime_64 : decode cX1_worstTime 64 = .ok (.iload 7, 2) := by decide +kernel
theorem dX1_worstTime_66 : decode cX1_worstTime 66 = .ok (.invokestatic 59, 3) := by decide +kernel
theorem dX1_worstTime_69 : decode cX1_worstTime 69 = .ok (.istore 5, 2) := by decide +kernel
theorem dX1_worstTime_71 : decode cX1_worstTime 71 = .ok (.iinc 6 1, 3) := by decide +kernel
theorem dX1_worstTime_74 : decode cX1_worstTime 74 = .ok (.goto (-56), 3) := by decide +kernel
theorem dX1_worstTime_77 : decode cX1_worstTime 77 = .ok (.iload_n 2, 1) := by decide +kernel
theorem dX1_worstTime_78 : decode cX1_worstTime 78 = .ok (.iconst 2, 1) := by decide +kernel
theorem dX1_worstTime_79 : decode cX1_worstTime 79 = .ok (.iload 4, 2) := by decide +kernel
theorem dX1_worstTime_81 : decode cX1_worstTime 81 = .ok (.imul, 1) := by decide +kernel
theorem dX1_worstTime_82 : decode cX1_worstTime 82 = .ok (.iload 5, 2) := by decide +kernel
theorem dX1_worstTime_84 : decode cX1_worstTime 84 = .ok (.isub, 1) := by decide +kernel
theorem dX1_worstTime_85 : decode cX1_worstTime 85 = .ok (.invokestatic 59, 3) := by decide +kernel
theorem dX1_worstTime_88 : decode cX1_worstTime 88 = .ok (.istore_n 2, 1) := by decide +kernel
theorem dX1_worstTime_89 : decode cX1_worstTime 89 = .ok (.iinc 3 1, 3) := by decide +kernel
theorem dX1_worstTime_92 : decode cX1_worstTime 92 = .ok (.goto (-88), 3) := by decide +kernel
theorem dX1_worstTime_95 : decode cX1_worstTime 95 = .ok (.iload_n 2, 1) := by decide +kernel
theorem dX1_worstTime_96 : decode cX1_worstTime 96 = .ok (.ireturn, 1) := by decide +kernel
theorem dX1_timeOf_0 : decode cX1_timeOf 0 = .ok (.aload_n 0, 1) := by decide +kernel
theorem dX1_timeOf_1 : decode cX1_timeOf 1 = .ok (.getfield 14, 3) := by decide +kernel
theorem dX1_timeOf_4 : decode cX1_timeOf 4 = .ok (.iload_n 1, 1) := by decide +kernel
theorem dX1_timeOf_5 : decode cX1_timeOf 5 = .ok (.invokevirtual 39, 3) := by decide +kernel
theorem dX1_timeOf_8 : decode cX1_timeOf 8 = .ok (.istore_n 2, 1) := by decide +kernel
theorem dX1_timeOf_9 : decode cX1_timeOf 9 = .ok (.iconst 0, 1) := by decide +kernel
theorem dX1_timeOf_10 : decode cX1_timeOf 10 = .ok (.istore_n 3, 1) := by decide +kernel
theorem dX1_timeOf_11 : decode cX1_timeOf 11 = .ok (.iload_n 3, 1) := by decide +kernel
theorem dX1_timeOf_12 : decode cX1_timeOf 12 = .ok (.aload_n 0, 1) := by decide +kernel
theorem dX1_timeOf_13 : decode cX1_timeOf 13 = .ok (.invokevirtual 42, 3) := by decide +kernel
theorem dX1_timeOf_16 : decode cX1_timeOf 16 = .ok (.if_icmp .ge 44, 3) := by decide +kernel
theorem dX1_timeOf_19 : decode cX1_timeOf 19 = .ok (.aload_n 0, 1) := by decide +kernel
theorem dX1_timeOf_20 : decode cX1_timeOf 20 = .ok (.iload_n 3, 1) := by decide +kernel
theorem dX1_timeOf_21 : decode cX1_timeOf 21 = .ok (.invokevirtual 65, 3) := by decide +kernel
theorem dX1_timeOf_24 : decode cX1_timeOf 24 = .ok (.aload_n 0, 1) := by decide +kernel
theorem dX1_timeOf_25 : decode cX1_timeOf 25 = .ok (.iload_n 1, 1) := by decide +kernel
theorem dX1_timeOf_26 : decode cX1_timeOf 26 = .ok (.invokevirtual 65, 3) := by decide +kernel
theorem dX1_timeOf_29 : decode cX1_timeOf 29 = .ok (.if_icmp .ne 25, 3) := by decide +kernel
theorem dX1_timeOf_32 : decode cX1_timeOf 32 = .ok (.aload_n 0, 1) := by decide +kernel
theorem dX1_timeOf_33 : decode cX1_timeOf 33 = .ok (.iload_n 3, 1) := by decide +kernel
theorem dX1_timeOf_34 : decode cX1_timeOf 34 = .ok (.iload_n 1, 1) := by decide +kernel
theorem dX1_timeOf_35 : decode cX1_timeOf 35 = .ok (.invokevirtual 68, 3) := by decide +kernel
theorem dX1_timeOf_38 : decode cX1_timeOf 38 = .ok (.ifCond .eq 16, 3) := by decide +kernel
theorem dX1_timeOf_41 : decode cX1_timeOf 41 = .ok (.iload_n 2, 1) := by decide +kernel
theorem dX1_timeOf_42 : decode cX1_timeOf 42 = .ok (.iconst 2, 1) := by decide +kernel
theorem dX1_timeOf_43 : decode cX1_timeOf 43 = .ok (.aload_n 0, 1) := by decide +kernel
theorem dX1_timeOf_44 : decode cX1_timeOf 44 = .ok (.getfield 14, 3) := by decide +kernel
theorem dX1_timeOf_47 : decode cX1_timeOf 47 = .ok (.iload_n 3, 1) := by decide +kernel
theorem dX1_timeOf_48 : decode cX1_timeOf 48 = .ok (.invokevirtual 39, 3) := by decide +kernel
theorem dX1_timeOf_51 : decode cX1_timeOf 51 = .ok (.imul, 1) := by decide +kernel
theorem dX1_timeOf_52 : decode cX1_timeOf 52 = .ok (.iadd, 1) := by decide +kernel
theorem dX1_timeOf_53 : decode cX1_timeOf 53 = .ok (.istore_n 2, 1) := by decide +kernel
theorem dX1_timeOf_54 : decode cX1_timeOf 54 = .ok (.iinc 3 1, 3) := by decide +kernel
theorem dX1_timeOf_57 : decode cX1_timeOf 57 = .ok (.goto (-46), 3) := by decide +kernel
theorem dX1_timeOf_60 : decode cX1_timeOf 60 = .ok (.iload_n 2, 1) := by decide +kernel
theorem dX1_timeOf_61 : decode cX1_timeOf 61 = .ok (.ireturn, 1) := by decide +kernel
theorem dX1_comesBefore_0 : decode cX1_comesBefore 0 = .ok (.aload_n 0, 1) := by decide +kernel
theorem dX1_comesBefore_1 : decode cX1_comesBefore 1 = .ok (.getfield 14, 3) := by decide +kernel
theorem dX1_comesBefore_4 : decode cX1_comesBefore 4 = .ok (.iload_n 1, 1) := by decide +kernel
theorem dX1_comesBefore_5 : decode cX1_comesBefore 5 = .ok (.invokevirtual 39, 3) := by decide +kernel
theorem dX1_comesBefore_8 : decode cX1_comesBefore 8 = .ok (.aload_n 0, 1) := by decide +kernel
theorem dX1_comesBefore_9 : decode cX1_comesBefore 9 = .ok (.getfield 14, 3) := by decide +kernel
theorem dX1_comesBefore_12 : decode cX1_comesBefore 12 = .ok (.iload_n 2, 1) := by decide +kernel
theorem dX1_comesBefore_13 : decode cX1_comesBefore 13 = .ok (.invokevirtual 39, 3) := by decide +kernel
theorem dX1_comesBefore_16 : decode cX1_comesBefore 16 = .ok (.isub, 1) := by decide +kernel
theorem dX1_comesBefore_17 : decode cX1_comesBefore 17 = .ok (.istore_n 3, 1) := by decide +kernel
theorem dX1_comesBefore_18 : decode cX1_comesBefore 18 = .ok (.iload_n 3, 1) := by decide +kernel
theorem dX1_comesBefore_19 : decode cX1_comesBefore 19 = .ok (.ifCond .lt 12, 3) := by decide +kernel
theorem dX1_comesBefore_22 : decode cX1_comesBefore 22 = .ok (.iload_n 3, 1) := by decide +kernel
theorem dX1_comesBefore_23 : decode cX1_comesBefore 23 = .ok (.ifCond .ne 12, 3) := by decide +kernel
theorem dX1_comesBefore_26 : decode cX1_comesBefore 26 = .ok (.iload_n 1, 1) := by decide +kernel
theorem dX1_comesBefore_27 : decode cX1_comesBefore 27 = .ok (.iload_n 2, 1) := by decide +kernel
theorem dX1_comesBefore_28 : decode cX1_comesBefore 28 = .ok (.if_icmp .ge 7, 3) := by decide +kernel
theorem dX1_comesBefore_31 : decode cX1_comesBefore 31 = .ok (.iconst 1, 1) := by decide +kernel
theorem dX1_comesBefore_32 : decode cX1_comesBefore 32 = .ok (.goto 4, 3) := by decide +kernel
theorem dX1_comesBefore_35 : decode cX1_comesBefore 35 = .ok (.iconst 0, 1) := by decide +kernel
theorem dX1_comesBefore_36 : decode cX1_comesBefore 36 = .ok (.ireturn, 1) := by decide +kernel
theorem dX10_init_0 : decode cX10_init 0 = .ok (.aload_n 0, 1) := by decide +kernel
theorem dX10_init_1 : decode cX10_init 1 = .ok (.invokespecial 1, 3) := by decide +kernel
theorem dX10_init_4 : decode cX10_init 4 = .ok (.aload_n 0, 1) := by decide +kernel
theorem dX10_init_5 : decode cX10_init 5 = .ok (.bipush 16, 2) := by decide +kernel
theorem dX10_init_7 : decode cX10_init 7 = .ok (.newarray .int, 2) := by decide +kernel
theorem dX10_init_9 : decode cX10_init 9 = .ok (.putfield 7, 3) := by decide +kernel
theorem dX10_init_12 : decode cX10_init 12 = .ok (.aload_n 0, 1) := by decide +kernel
theorem dX10_init_13 : decode cX10_init 13 = .ok (.bipush 16, 2) := by decide +kernel
theorem dX10_init_15 : decode cX10_init 15 = .ok (.newarray .int, 2) := by decide +kernel
theorem dX10_init_17 : decode cX10_init 17 = .ok (.putfield 13, 3) := by decide +kernel
theorem dX10_init_20 : decode cX10_init 20 = .ok (.aload_n 0, 1) := by decide +kernel
theorem dX10_init_21 : decode cX10_init 21 = .ok (.bipush 16, 2) := by decide +kernel
theorem dX10_init_23 : decode cX10_init 23 = .ok (.newarray .int, 2) := by decide +kernel
theorem dX10_init_25 : decode cX10_init 25 = .ok (.putfield 16, 3) := by decide +kernel
theorem dX10_init_28 : decode cX10_init 28 = .ok (.aload_n 0, 1) := by decide +kernel
theorem dX10_init_29 : decode cX10_init 29 = .ok (.bipush 24, 2) := by decide +kernel
theorem dX10_init_31 : decode cX10_init 31 = .ok (.newarray .int, 2) := by decide +kernel
theorem dX10_init_33 : decode cX10_init 33 = .ok (.putfield 19, 3) := by decide +kernel
theorem dX10_init_36 : decode cX10_init 36 = .ok (.aload_n 0, 1) := by decide +kernel
theorem dX10_init_37 : decode cX10_init 37 = .ok (.bipush 24, 2) := by decide +kernel
theorem dX10_init_39 : decode cX10_init 39 = .ok (.newarray .int, 2) := by decide +kernel
theorem dX10_init_41 : decode cX10_init 41 = .ok (.putfield 22, 3) := by decide +kernel
theorem dX10_init_44 : decode cX10_init 44 = .ok (.aload_n 0, 1) := by decide +kernel
theorem dX10_init_45 : decode cX10_init 45 = .ok (.bipush 24, 2) := by decide +kernel
theorem dX10_init_47 : decode cX10_init 47 = .ok (.newarray .int, 2) := by decide +kernel
theorem dX10_init_49 : decode cX10_init 49 = .ok (.putfield 25, 3) := by decide +kernel
theorem dX10_init_52 : decode cX10_init 52 = .ok (.aload_n 0, 1) := by decide +kernel
theorem dX10_init_53 : decode cX10_init 53 = .ok (.bipush 24, 2) := by decide +kernel
theorem dX10_init_55 : decode cX10_init 55 = .ok (.newarray .int, 2) := by decide +kernel
theorem dX10_init_57 : decode cX10_init 57 = .ok (.putfield 28, 3) := by decide +kernel
theorem dX10_init_60 : decode cX10_init 60 = .ok (.aload_n 0, 1) := by decide +kernel
theorem dX10_init_61 : decode cX10_init 61 = .ok (.bipush 24, 2) := by decide +kernel
theorem dX10_init_63 : decode cX10_init 63 = .ok (.newarray .int, 2) := by decide +kernel
theorem dX10_init_65 : decode cX10_init 65 = .ok (.putfield 31, 3) := by decide +kernel
theorem dX10_init_68 : decode cX10_init 68 = .ok (.aload_n 0, 1) := by decide +kernel
theorem dX10_init_69 : decode cX10_init 69 = .ok (.bipush 24, 2) := by decide +kernel
theorem dX10_init_71 : decode cX10_init 71 = .ok (.newarray .int, 2) := by decide +kernel
theorem dX10_init_73 : decode cX10_init 73 = .ok (.putfield 34, 3) := by decide +kernel
theorem dX10_init_76 : decode cX10_init 76 = .ok (.aload_n 0, 1) := by decide +kernel
theorem dX10_init_77 : decode cX10_init 77 = .ok (.bipush 24, 2) := by decide +kernel
theorem dX10_init_79 : decode cX10_init 79 = .ok (.newarray .boolean, 2) := by decide +kernel
theorem dX10_init_81 : decode cX10_init 81 = .ok (.putfield 37, 3) := by decide +kernel
theorem dX10_init_84 : decode cX10_init 84 = .ok (.aload_n 0, 1) := by decide +kernel
theorem dX10_init_85 : decode cX10_init 85 = .ok (.bipush 24, 2) := by decide +kernel
theorem dX10_init_87 : decode cX10_init 87 = .ok (.newarray .boolean, 2) := by decide +kernel
theorem dX10_init_89 : decode cX10_init 89 = .ok (.putfield 41, 3) := by decide +kernel
theorem dX10_init_92 : decode cX10_init 92 = .ok (.aload_n 0, 1) := by decide +kernel
theorem dX10_init_93 : decode cX10_init 93 = .ok (.bipush 12, 2) := by decide +kernel
theorem dX10_init_95 : decode cX10_init 95 = .ok (.putfield 44, 3) := by decide +kernel
theorem dX10_init_98 : decode cX10_init 98 = .ok (.aload_n 0, 1) := by decide +kernel
theorem dX10_init_99 : decode cX10_init 99 = .ok (.bipush 32, 2) := by decide +kernel
theorem dX10_init_101 : decode cX10_init 101 = .ok (.newarray .int, 2) := by decide +kernel
theorem dX10_init_103 : decode cX10_init 103 = .ok (.putfield 48, 3) := by decide +kernel
theorem dX10_init_106 : decode cX10_init 106 = .ok (.aload_n 0, 1) := by decide +kernel
theorem dX10_init_107 : decode cX10_init 107 = .ok (.sipush 160, 3) := by decide +kernel
theorem dX10_init_110 : decode cX10_init 110 = .ok (.newarray .boolean, 2) := by decide +kernel
theorem dX10_init_112 : decode cX10_init 112 = .ok (.putfield 51, 3) := by decide +kernel
theorem dX10_init_115 : decode cX10_init 115 = .ok (.aload_n 0, 1) := by decide +kernel
theorem dX10_init_116 : decode cX10_init 116 = .ok (.bipush 8, 2) := by decide +kernel
theorem dX10_init_118 : decode cX10_init 118 = .ok (.newarray .int, 2) := by decide +kernel
theorem dX10_init_120 : decode cX10_init 120 = .ok (.putfield 54, 3) := by decide +kernel
theorem dX10_init_123 : decode cX10_init 123 = .ok (.aload_n 0, 1) := by decide +kernel
theorem dX10_init_124 : decode cX10_init 124 = .ok (.sipush 1360, 3) := by decide +kernel
theorem dX10_init_127 : decode cX10_init 127 = .ok (.newarray .int, 2) := by decide +kernel
theorem dX10_init_129 : decode cX10_init 129 = .ok (.putfield 57, 3) := by decide +kernel
theorem dX10_init_132 : decode cX10_init 132 = .ok (.aload_n 0, 1) := by decide +kernel
theorem dX10_init_133 : decode cX10_init 133 = .ok (.bipush 10, 2) := by decide +kernel
theorem dX10_init_135 : decode cX10_init 135 = .ok (.newarray .int, 2) := by decide +kernel
theorem dX10_init_137 : decode cX10_init 137 = .ok (.putfield 60, 3) := by decide +kernel
theorem dX10_init_140 : decode cX10_init 140 = .ok (.aload_n 0, 1) := by decide +kernel
theorem dX10_init_141 : decode cX10_init 141 = .ok (.bipush 6, 2) := by decide +kernel
theorem dX10_init_143 : decode cX10_init 143 = .ok (.newarray .int, 2) := by decide +kernel
theorem dX10_init_145 : decode cX10_init 145 = .ok (.putfield 63, 3) := by decide +kernel
theorem dX10_init_148 : decode cX10_init 148 = .ok (.aload_n 0, 1) := by decide +kernel
theorem dX10_init_149 : decode cX10_init 149 = .ok (.bipush 36, 2) := by decide +kernel
theorem dX10_init_151 : decode cX10_init 151 = .ok (.newarray .int, 2) := by decide +kernel
theorem dX10_init_153 : decode cX10_init 153 = .ok (.putfield 66, 3) := by decide +kernel
theorem dX10_init_156 : decode cX10_init 156 = .ok (.aload_n 0, 1) := by decide +kernel
theorem dX10_init_157 : decode cX10_init 157 = .ok (.bipush 6, 2) := by decide +kernel
theorem dX10_init_159 : decode cX10_init 159 = .ok (.newarray .boolean, 2) := by decide +kernel
theorem dX10_init_161 : decode cX10_init 161 = .ok (.putfield 69, 3) := by decide +kernel
theorem dX10_init_164 : decode cX10_init 164 = .ok (.aload_n 0, 1) := by decide +kernel
theorem dX10_init_165 : decode cX10_init 165 = .ok (.iconst 5, 1) := by decide +kernel
theorem dX10_init_166 : decode cX10_init 166 = .ok (.newarray .int, 2) := by decide +kernel
theorem dX10_init_168 : decode cX10_init 168 = .ok (.putfield 72, 3) := by decide +kernel
theorem dX10_init_171 : decode cX10_init 171 = .ok (.aload_n 0, 1) := by decide +kernel
theorem dX10_init_172 : decode cX10_init 172 = .ok (.iconst 5, 1) := by decide +kernel
theorem dX10_init_173 : decode cX10_init 173 = .ok (.newarray .int, 2) := by decide +kernel
theorem dX10_init_175 : decode cX10_init 175 = .ok (.putfield 75, 3) := by decide +kernel
theorem dX10_init_178 : decode cX10_init 178 = .ok (.aload_n 0, 1) := by decide +kernel
theorem dX10_init_179 : decode cX10_init 179 = .ok (.iconst 4, 1) := by decide +kernel
theorem dX10_init_180 : decode cX10_init 180 = .ok (.newarray .int, 2) := by decide +kernel
theorem dX10_init_182 : decode cX10_init 182 = .ok (.putfield 78, 3) := by decide +kernel
theorem dX10_init_185 : decode cX10_init 185 = .ok (.aload_n 0, 1) := by decide +kernel
theorem dX10_init_186 : decode cX10_init 186 = .ok (.bipush 8, 2) := by decide +kernel
theorem dX10_init_188 : decode cX10_init 188 = .ok (.newarray .int, 2) := by decide +kernel
theorem dX10_init_190 : decode cX10_init 190 = .ok (.putfield 81, 3) := by decide +kernel
theorem dX10_init_193 : decode cX10_init 193 = .ok (.aload_n 0, 1) := by decide +kernel
theorem dX10_init_194 : decode cX10_init 194 = .ok (.bipush 8, 2) := by decide +kernel
theorem dX10_init_196 : decode cX10_init 196 = .ok (.newarray .int, 2) := by decide +kernel
end
section
theorem dX10_init_198 : decode cX10_init 198 = .ok (.putfield 84, 3) := by decide +kernel
theorem dX10_init_201 : decode cX10_init 201 = .ok (.aload_n 0, 1) := by decide +kernel
theorem dX10_init_202 : decode cX10_init 202 = .ok (.bipush 8, 2) := by decide +kernel
theorem dX10_init_204 : decode cX10_init 204 = .ok (.newarray .int, 2) := by decide +kernel
theorem dX10_init_206 : decode cX10_init 206 = .ok (.putfield 87, 3) := by decide +kernel
theorem dX10_init_209 : decode cX10_init 209 = .ok (.return_, 1) := by decide +kernel
theorem dX10_in_0 : decode cX10_in 0 = .ok (.iload_n 0, 1) := by decide +kernel
theorem dX10_in_1 : decode cX10_in 1 = .ok (.iload_n 1, 1) := by decide +kernel
theorem dX10_in_2 : decode cX10_in 2 = .ok (.if_icmp .lt 12, 3) := by decide +kernel
theorem dX10_in_5 : decode cX10_in 5 = .ok (.iload_n 0, 1) := by decide +kernel
theorem dX10_in_6 : decode cX10_in 6 = .ok (.iload_n 2, 1) := by decide +kernel
theorem dX10_in_7 : decode cX10_in 7 = .ok (.if_icmp .gt 7, 3) := by decide +kernel
theorem dX10_in_10 : decode cX10_in 10 = .ok (.iconst 1, 1) := by decide +kernel
theorem dX10_in_11 : decode cX10_in 11 = .ok (.goto 4, 3) := by decide +kernel
theorem dX10_in_14 : decode cX10_in 14 = .ok (.iconst 0, 1) := by decide +kernel
theorem dX10_in_15 : decode cX10_in 15 = .ok (.ireturn, 1) := by decide +kernel
theorem dX10_isPlace_0 : decode cX10_isPlace 0 = .ok (.iload_n 0, 1) := by decide +kernel
theorem dX10_isPlace_1 : decode cX10_isPlace 1 = .ok (.iconst 0, 1) := by decide +kernel
theorem dX10_isPlace_2 : decode cX10_isPlace 2 = .ok (.bipush 9, 2) := by decide +kernel
theorem dX10_isPlace_4 : decode cX10_isPlace 4 = .ok (.invokestatic 90, 3) := by decide +kernel
theorem dX10_isPlace_7 : decode cX10_isPlace 7 = .ok (.ireturn, 1) := by decide +kernel
theorem dX10_isAt_0 : decode cX10_isAt 0 = .ok (.iload_n 1, 1) := by decide +kernel
theorem dX10_isAt_1 : decode cX10_isAt 1 = .ok (.iconst 0, 1) := by decide +kernel
theorem dX10_isAt_2 : decode cX10_isAt 2 = .ok (.aload_n 0, 1) := by decide +kernel
theorem dX10_isAt_3 : decode cX10_isAt 3 = .ok (.getfield 94, 3) := by decide +kernel
theorem dX10_isAt_6 : decode cX10_isAt 6 = .ok (.iconst 1, 1) := by decide +kernel
theorem dX10_isAt_7 : decode cX10_isAt 7 = .ok (.isub, 1) := by decide +kernel
theorem dX10_isAt_8 : decode cX10_isAt 8 = .ok (.invokestatic 90, 3) := by decide +kernel
theorem dX10_isAt_11 : decode cX10_isAt 11 = .ok (.ifCond .eq 27, 3) := by decide +kernel
theorem dX10_isAt_14 : decode cX10_isAt 14 = .ok (.aload_n 0, 1) := by decide +kernel
theorem dX10_isAt_15 : decode cX10_isAt 15 = .ok (.getfield 7, 3) := by decide +kernel
theorem dX10_isAt_18 : decode cX10_isAt 18 = .ok (.iload_n 1, 1) := by decide +kernel
theorem dX10_isAt_19 : decode cX10_isAt 19 = .ok (.iaload, 1) := by decide +kernel
theorem dX10_isAt_20 : decode cX10_isAt 20 = .ok (.iload_n 2, 1) := by decide +kernel
theorem dX10_isAt_21 : decode cX10_isAt 21 = .ok (.if_icmp .eq 13, 3) := by decide +kernel
theorem dX10_isAt_24 : decode cX10_isAt 24 = .ok (.aload_n 0, 1) := by decide +kernel
theorem dX10_isAt_25 : decode cX10_isAt 25 = .ok (.getfield 13, 3) := by decide +kernel
theorem dX10_isAt_28 : decode cX10_isAt 28 = .ok (.iload_n 1, 1) := by decide +kernel
theorem dX10_isAt_29 : decode cX10_isAt 29 = .ok (.iaload, 1) := by decide +kernel
theorem dX10_isAt_30 : decode cX10_isAt 30 = .ok (.iload_n 2, 1) := by decide +kernel
theorem dX10_isAt_31 : decode cX10_isAt 31 = .ok (.if_icmp .ne 7, 3) := by decide +kernel
theorem dX10_isAt_34 : decode cX10_isAt 34 = .ok (.iconst 1, 1) := by decide +kernel
theorem dX10_isAt_35 : decode cX10_isAt 35 = .ok (.goto 4, 3) := by decide +kernel
theorem dX10_isAt_38 : decode cX10_isAt 38 = .ok (.iconst 0, 1) := by decide +kernel
theorem dX10_isAt_39 : decode cX10_isAt 39 = .ok (.ireturn, 1) := by decide +kernel
theorem dX10_otherEnd_0 : decode cX10_otherEnd 0 = .ok (.aload_n 0, 1) := by decide +kernel
theorem dX10_otherEnd_1 : decode cX10_otherEnd 1 = .ok (.getfield 7, 3) := by decide +kernel
theorem dX10_otherEnd_4 : decode cX10_otherEnd 4 = .ok (.iload_n 1, 1) := by decide +kernel
theorem dX10_otherEnd_5 : decode cX10_otherEnd 5 = .ok (.iaload, 1) := by decide +kernel
theorem dX10_otherEnd_6 : decode cX10_otherEnd 6 = .ok (.iload_n 2, 1) := by decide +kernel
theorem dX10_otherEnd_7 : decode cX10_otherEnd 7 = .ok (.if_icmp .ne 12, 3) := by decide +kernel
theorem dX10_otherEnd_10 : decode cX10_otherEnd 10 = .ok (.aload_n 0, 1) := by decide +kernel
theorem dX10_otherEnd_11 : decode cX10_otherEnd 11 = .ok (.getfield 13, 3) := by decide +kernel
theorem dX10_otherEnd_14 : decode cX10_otherEnd 14 = .ok (.iload_n 1, 1) := by decide +kernel
theorem dX10_otherEnd_15 : decode cX10_otherEnd 15 = .ok (.iaload, 1) := by decide +kernel
theorem dX10_otherEnd_16 : decode cX10_otherEnd 16 = .ok (.goto 9, 3) := by decide +kernel
theorem dX10_otherEnd_19 : decode cX10_otherEnd 19 = .ok (.aload_n 0, 1) := by decide +kernel
theorem dX10_otherEnd_20 : decode cX10_otherEnd 20 = .ok (.getfield 7, 3) := by decide +kernel
theorem dX10_otherEnd_23 : decode cX10_otherEnd 23 = .ok (.iload_n 1, 1) := by decide +kernel
theorem dX10_otherEnd_24 : decode cX10_otherEnd 24 = .ok (.iaload, 1) := by decide +kernel
theorem dX10_otherEnd_25 : decode cX10_otherEnd 25 = .ok (.ireturn, 1) := by decide +kernel
theorem dX10_joins_0 : decode cX10_joins 0 = .ok (.iconst (-1), 1) := by decide +kernel
theorem dX10_joins_1 : decode cX10_joins 1 = .ok (.istore_n 3, 1) := by decide +kernel
theorem dX10_joins_2 : decode cX10_joins 2 = .ok (.iconst 0, 1) := by decide +kernel
theorem dX10_joins_3 : decode cX10_joins 3 = .ok (.istore 4, 2) := by decide +kernel
theorem dX10_joins_5 : decode cX10_joins 5 = .ok (.iload 4, 2) := by decide +kernel
theorem dX10_joins_7 : decode cX10_joins 7 = .ok (.aload_n 0, 1) := by decide +kernel
theorem dX10_joins_8 : decode cX10_joins 8 = .ok (.getfield 94, 3) := by decide +kernel
theorem dX10_joins_11 : decode cX10_joins 11 = .ok (.if_icmp .ge 41, 3) := by decide +kernel
theorem dX10_joins_14 : decode cX10_joins 14 = .ok (.aload_n 0, 1) := by decide +kernel
theorem dX10_joins_15 : decode cX10_joins 15 = .ok (.iload 4, 2) := by decide +kernel
theorem dX10_joins_17 : decode cX10_joins 17 = .ok (.iload_n 1, 1) := by decide +kernel
theorem dX10_joins_18 : decode cX10_joins 18 = .ok (.invokevirtual 97, 3) := by decide +kernel
theorem dX10_joins_21 : decode cX10_joins 21 = .ok (.ifCond .eq 23, 3) := by decide +kernel
theorem dX10_joins_24 : decode cX10_joins 24 = .ok (.aload_n 0, 1) := by decide +kernel
theorem dX10_joins_25 : decode cX10_joins 25 = .ok (.iload 4, 2) := by decide +kernel
theorem dX10_joins_27 : decode cX10_joins 27 = .ok (.iload_n 2, 1) := by decide +kernel
theorem dX10_joins_28 : decode cX10_joins 28 = .ok (.invokevirtual 97, 3) := by decide +kernel
theorem dX10_joins_31 : decode cX10_joins 31 = .ok (.ifCond .eq 13, 3) := by decide +kernel
theorem dX10_joins_34 : decode cX10_joins 34 = .ok (.iload_n 1, 1) := by decide +kernel
theorem dX10_joins_35 : decode cX10_joins 35 = .ok (.iload_n 2, 1) := by decide +kernel
theorem dX10_joins_36 : decode cX10_joins 36 = .ok (.if_icmp .eq 8, 3) := by decide +kernel
theorem dX10_joins_39 : decode cX10_joins 39 = .ok (.iload 4, 2) := by decide +kernel
theorem dX10_joins_41 : decode cX10_joins 41 = .ok (.goto 4, 3) := by decide +kernel
theorem dX10_joins_44 : decode cX10_joins 44 = .ok (.iload_n 3, 1) := by decide +kernel
theorem dX10_joins_45 : decode cX10_joins 45 = .ok (.istore_n 3, 1) := by decide +kernel
theorem dX10_joins_46 : decode cX10_joins 46 = .ok (.iinc 4 1, 3) := by decide +kernel
theorem dX10_joins_49 : decode cX10_joins 49 = .ok (.goto (-44), 3) := by decide +kernel
theorem dX10_joins_52 : decode cX10_joins 52 = .ok (.iload_n 3, 1) := by decide +kernel
theorem dX10_joins_53 : decode cX10_joins 53 = .ok (.ireturn, 1) := by decide +kernel
theorem dX10_pathsAt_0 : decode cX10_pathsAt 0 = .ok (.iconst 0, 1) := by decide +kernel
theorem dX10_pathsAt_1 : decode cX10_pathsAt 1 = .ok (.istore_n 2, 1) := by decide +kernel
theorem dX10_pathsAt_2 : decode cX10_pathsAt 2 = .ok (.iconst 0, 1) := by decide +kernel
theorem dX10_pathsAt_3 : decode cX10_pathsAt 3 = .ok (.istore_n 3, 1) := by decide +kernel
theorem dX10_pathsAt_4 : decode cX10_pathsAt 4 = .ok (.iload_n 3, 1) := by decide +kernel
theorem dX10_pathsAt_5 : decode cX10_pathsAt 5 = .ok (.aload_n 0, 1) := by decide +kernel
theorem dX10_pathsAt_6 : decode cX10_pathsAt 6 = .ok (.getfield 94, 3) := by decide +kernel
theorem dX10_pathsAt_9 : decode cX10_pathsAt 9 = .ok (.if_icmp .ge 28, 3) := by decide +kernel
theorem dX10_pathsAt_12 : decode cX10_pathsAt 12 = .ok (.iload_n 2, 1) := by decide +kernel
theorem dX10_pathsAt_13 : decode cX10_pathsAt 13 = .ok (.aload_n 0, 1) := by decide +kernel
theorem dX10_pathsAt_14 : decode cX10_pathsAt 14 = .ok (.iload_n 3, 1) := by decide +kernel
theorem dX10_pathsAt_15 : decode cX10_pathsAt 15 = .ok (.iload_n 1, 1) := by decide +kernel
theorem dX10_pathsAt_16 : decode cX10_pathsAt 16 = .ok (.invokevirtual 97, 3) := by decide +kernel
theorem dX10_pathsAt_19 : decode cX10_pathsAt 19 = .ok (.ifCond .eq 9, 3) := by decide +kernel
theorem dX10_pathsAt_22 : decode cX10_pathsAt 22 = .ok (.iconst 1, 1) := by decide +kernel
theorem dX10_pathsAt_23 : decode cX10_pathsAt 23 = .ok (.iload_n 3, 1) := by decide +kernel
theorem dX10_pathsAt_24 : decode cX10_pathsAt 24 = .ok (.ishl, 1) := by decide +kernel
theorem dX10_pathsAt_25 : decode cX10_pathsAt 25 = .ok (.goto 4, 3) := by decide +kernel
theorem dX10_pathsAt_28 : decode cX10_pathsAt 28 = .ok (.iconst 0, 1) := by decide +kernel
theorem dX10_pathsAt_29 : decode cX10_pathsAt 29 = .ok (.ior, 1) := by decide +kernel
theorem dX10_pathsAt_30 : decode cX10_pathsAt 30 = .ok (.istore_n 2, 1) := by decide +kernel
theorem dX10_pathsAt_31 : decode cX10_pathsAt 31 = .ok (.iinc 3 1, 3) := by decide +kernel
theorem dX10_pathsAt_34 : decode cX10_pathsAt 34 = .ok (.goto (-30), 3) := by decide +kernel
theorem dX10_pathsAt_37 : decode cX10_pathsAt 37 = .ok (.iload_n 2, 1) := by decide +kernel
theorem dX10_pathsAt_38 : decode cX10_pathsAt 38 = .ok (.ireturn, 1) := by decide +kernel
theorem dX10_path_0 : decode cX10_path 0 = .ok (.iload_n 1, 1) := by decide +kernel
theorem dX10_path_1 : decode cX10_path 1 = .ok (.invokestatic 101, 3) := by decide +kernel
theorem dX10_path_4 : decode cX10_path 4 = .ok (.ifCond .eq 10, 3) := by decide +kernel
theorem dX10_path_7 : decode cX10_path 7 = .ok (.iload_n 2, 1) := by decide +kernel
theorem dX10_path_8 : decode cX10_path 8 = .ok (.invokestatic 101, 3) := by decide +kernel
theorem dX10_path_11 : decode cX10_path 11 = .ok (.ifCond .ne 6, 3) := by decide +kernel
theorem dX10_path_14 : decode cX10_path 14 = .ok (.bipush (-2), 2) := by decide +kernel
theorem dX10_path_16 : decode cX10_path 16 = .ok (.ireturn, 1) := by decide +kernel
theorem dX10_path_17 : decode cX10_path 17 = .ok (.iload_n 1, 1) := by decide +kernel
theorem dX10_path_18 : decode cX10_path 18 = .ok (.iload_n 2, 1) := by decide +kernel
theorem dX10_path_19 : decode cX10_path 19 = .ok (.if_icmp .eq 13, 3) := by decide +kernel
theorem dX10_path_22 : decode cX10_path 22 = .ok (.iload_n 3, 1) := by decide +kernel
theorem dX10_path_23 : decode cX10_path 23 = .ok (.iconst 1, 1) := by decide +kernel
theorem dX10_path_24 : decode cX10_path 24 = .ok (.bipush 9, 2) := by decide +kernel
theorem dX10_path_26 : decode cX10_path 26 = .ok (.invokestatic 90, 3) := by decide +kernel
theorem dX10_path_29 : decode cX10_path 29 = .ok (.ifCond .ne 6, 3) := by decide +kernel
theorem dX10_path_32 : decode cX10_path 32 = .ok (.bipush (-3), 2) := by decide +kernel
theorem dX10_path_34 : decode cX10_path 34 = .ok (.ireturn, 1) := by decide +kernel
theorem dX10_path_35 : decode cX10_path 35 = .ok (.aload_n 0, 1) := by decide +kernel
theorem dX10_path_36 : decode cX10_path 36 = .ok (.iload_n 1, 1) := by decide +kernel
theorem dX10_path_37 : decode cX10_path 37 = .ok (.iload_n 2, 1) := by decide +kernel
theorem dX10_path_38 : decode cX10_path 38 = .ok (.invokevirtual 105, 3) := by decide +kernel
theorem dX10_path_41 : decode cX10_path 41 = .ok (.iconst (-1), 1) := by decide +kernel
theorem dX10_path_42 : decode cX10_path 42 = .ok (.if_icmp .eq 6, 3) := by decide +kernel
theorem dX10_path_45 : decode cX10_path 45 = .ok (.bipush (-4), 2) := by decide +kernel
theorem dX10_path_47 : decode cX10_path 47 = .ok (.ireturn, 1) := by decide +kernel
theorem dX10_path_48 : decode cX10_path 48 = .ok (.aload_n 0, 1) := by decide +kernel
theorem dX10_path_49 : decode cX10_path 49 = .ok (.getfield 94, 3) := by decide +kernel
theorem dX10_path_52 : decode cX10_path 52 = .ok (.bipush 16, 2) := by decide +kernel
theorem dX10_path_54 : decode cX10_path 54 = .ok (.if_icmp .ne 6, 3) := by decide +kernel
theorem dX10_path_57 : decode cX10_path 57 = .ok (.bipush (-5), 2) := by decide +kernel
theorem dX10_path_59 : decode cX10_path 59 = .ok (.ireturn, 1) := by decide +kernel
theorem dX10_path_60 : decode cX10_path 60 = .ok (.aload_n 0, 1) := by decide +kernel
theorem dX10_path_61 : decode cX10_path 61 = .ok (.getfield 7, 3) := by decide +kernel
theorem dX10_path_64 : decode cX10_path 64 = .ok (.aload_n 0, 1) := by decide +kernel
theorem dX10_path_65 : decode cX10_path 65 = .ok (.getfield 94, 3) := by decide +kernel
theorem dX10_path_68 : decode cX10_path 68 = .ok (.iload_n 1, 1) := by decide +kernel
theorem dX10_path_69 : decode cX10_path 69 = .ok (.iastore, 1) := by decide +kernel
theorem dX10_path_70 : decode cX10_path 70 = .ok (.aload_n 0, 1) := by decide +kernel
theorem dX10_path_71 : decode cX10_path 71 = .ok (.getfield 13, 3) := by decide +kernel
theorem dX10_path_74 : decode cX10_path 74 = .ok (.aload_n 0, 1) := by decide +kernel
theorem dX10_path_75 : decode cX10_path 75 = .ok (.getfield 94, 3) := by decide +kernel
theorem dX10_path_78 : decode cX10_path 78 = .ok (.iload_n 2, 1) := by decide +kernel
theorem dX10_path_79 : decode cX10_path 79 = .ok (.iastore, 1) := by decide +kernel
theorem dX10_path_80 : decode cX10_path 80 = .ok (.aload_n 0, 1) := by decide +kernel
theorem dX10_path_81 : decode cX10_path 81 = .ok (.getfield 16, 3) := by decide +kernel
theorem dX10_path_84 : decode cX10_path 84 = .ok (.aload_n 0, 1) := by decide +kernel
theorem dX10_path_85 : decode cX10_path 85 = .ok (.getfield 94, 3) := by decide +kernel
theorem dX10_path_88 : decode cX10_path 88 = .ok (.iload_n 3, 1) := by decide +kernel
theorem dX10_path_89 : decode cX10_path 89 = .ok (.iastore, 1) := by decide +kernel
theorem dX10_path_90 : decode cX10_path 90 = .ok (.aload_n 0, 1) := by decide +kernel
theorem dX10_path_91 : decode cX10_path 91 = .ok (.dup, 1) := by decide +kernel
theorem dX10_path_92 : decode cX10_path 92 = .ok (.getfield 94, 3) := by decide +kernel
theorem dX10_path_95 : decode cX10_path 95 = .ok (.iconst 1, 1) := by decide +kernel
theorem dX10_path_96 : decode cX10_path 96 = .ok (.iadd, 1) := by decide +kernel
theorem dX10_path_97 : decode cX10_path 97 = .ok (.putfield 94, 3) := by decide +kernel
theorem dX10_path_100 : decode cX10_path 100 = .ok (.aload_n 0, 1) := by decide +kernel
theorem dX10_path_101 : decode cX10_path 101 = .ok (.getfield 94, 3) := by decide +kernel
theorem dX10_path_104 : decode cX10_path 104 = .ok (.iconst 1, 1) := by decide +kernel
theorem dX10_path_105 : decode cX10_path 105 = .ok (.isub, 1) := by decide +kernel
theorem dX10_path_106 : decode cX10_path 106 = .ok (.ireturn, 1) := by decide +kernel
theorem dX10_weather_0 : decode cX10_weather 0 = .ok (.iload_n 1, 1) := by decide +kernel
theorem dX10_weather_1 : decode cX10_weather 1 = .ok (.iconst 0, 1) := by decide +kernel
theorem dX10_weather_2 : decode cX10_weather 2 = .ok (.iconst 2, 1) := by decide +kernel
theorem dX10_weather_3 : decode cX10_weather 3 = .ok (.invokestatic 90, 3) := by decide +kernel
theorem dX10_weather_6 : decode cX10_weather 6 = .ok (.ifCond .ne 6, 3) := by decide +kernel
theorem dX10_weather_9 : decode cX10_weather 9 = .ok (.bipush (-3), 2) := by decide +kernel
theorem dX10_weather_11 : decode cX10_weather 11 = .ok (.ireturn, 1) := by decide +kernel
theorem dX10_weather_12 : decode cX10_weather 12 = .ok (.aload_n 0, 1) := by decide +kernel
theorem dX10_weather_13 : decode cX10_weather 13 = .ok (.getfield 109, 3) := by decide +kernel
theorem dX10_weather_16 : decode cX10_weather 16 = .ok (.istore_n 2, 1) := by decide +kernel
theorem dX10_weather_17 : decode cX10_weather 17 = .ok (.aload_n 0, 1) := by decide +kernel
theorem dX10_weather_18 : decode cX10_weather 18 = .ok (.iload_n 1, 1) := by decide +kernel
theorem dX10_weather_19 : decode cX10_weather 19 = .ok (.putfield 109, 3) := by decide +kernel
theorem dX10_weather_22 : decode cX10_weather 22 = .ok (.iload_n 2, 1) := by decide +kernel
theorem dX10_weather_23 : decode cX10_weather 23 = .ok (.ireturn, 1) := by decide +kernel
theorem dX10_days_0 : decode cX10_days 0 = .ok (.iload_n 1, 1) := by decide +kernel
theorem dX10_days_1 : decode cX10_days 1 = .ok (.iconst 1, 1) := by decide +kernel
theorem dX10_days_2 : decode cX10_days 2 = .ok (.bipush 30, 2) := by decide +kernel
theorem dX10_days_4 : decode cX10_days 4 = .ok (.invokestatic 90, 3) := by decide +kernel
theorem dX10_days_7 : decode cX10_days 7 = .ok (.ifCond .eq 15, 3) := by decide +kernel
theorem dX10_days_10 : decode cX10_days 10 = .ok (.aload_n 0, 1) := by decide +kernel
theorem dX10_days_11 : decode cX10_days 11 = .ok (.getfield 112, 3) := by decide +kernel
theorem dX10_days_14 : decode cX10_days 14 = .ok (.iload_n 1, 1) := by decide +kernel
theorem dX10_days_15 : decode cX10_days 15 = .ok (.iadd, 1) := by decide +kernel
theorem dX10_days_16 : decode cX10_days 16 = .ok (.sipush 400, 3) := by decide +kernel
theorem dX10_days_19 : decode cX10_days 19 = .ok (.if_icmp .le 6, 3) := by decide +kernel
theorem dX10_days_22 : decode cX10_days 22 = .ok (.bipush (-3), 2) := by decide +kernel
theorem dX10_days_24 : decode cX10_days 24 = .ok (.ireturn, 1) := by decide +kernel
theorem dX10_days_25 : decode cX10_days 25 = .ok (.aload_n 0, 1) := by decide +kernel
theorem dX10_days_26 : decode cX10_days 26 = .ok (.dup, 1) := by decide +kernel
theorem dX10_days_27 : decode cX10_days 27 = .ok (.getfield 112, 3) := by decide +kernel
theorem dX10_days_30 : decode cX10_days 30 = .ok (.iload_n 1, 1) := by decide +kernel
theorem dX10_days_31 : decode cX10_days 31 = .ok (.iadd, 1) := by decide +kernel
theorem dX10_days_32 : decode cX10_days 32 = .ok (.putfield 112, 3) := by decide +kernel
theorem dX10_days_35 : decode cX10_days 35 = .ok (.iconst 0, 1) := by decide +kernel
theorem dX10_days_36 : decode cX10_days 36 = .ok (.istore_n 2, 1) := by decide +kernel
theorem dX10_days_37 : decode cX10_days 37 = .ok (.iload_n 2, 1) := by decide +kernel
theorem dX10_days_38 : decode cX10_days 38 = .ok (.aload_n 0, 1) := by decide +kernel
theorem dX10_days_39 : decode cX10_days 39 = .ok (.getfield 115, 3) := by decide +kernel
theorem dX10_days_42 : decode cX10_days 42 = .ok (.if_icmp .ge 67, 3) := by decide +kernel
theorem dX10_days_45 : decode cX10_days 45 = .ok (.iload_n 1, 1) := by decide +kernel
theorem dX10_days_46 : decode cX10_days 46 = .ok (.aload_n 0, 1) := by decide +kernel
theorem dX10_days_47 : decode cX10_days 47 = .ok (.getfield 22, 3) := by decide +kernel
theorem dX10_days_50 : decode cX10_days 50 = .ok (.iload_n 2, 1) := by decide +kernel
theorem dX10_days_51 : decode cX10_days 51 = .ok (.iaload, 1) := by decide +kernel
theorem dX10_days_52 : decode cX10_days 52 = .ok (.iconst 2, 1) := by decide +kernel
theorem dX10_days_53 : decode cX10_days 53 = .ok (.if_icmp .eq 10, 3) := by decide +kernel
theorem dX10_days_56 : decode cX10_days 56 = .ok (.aload_n 0, 1) := by decide +kernel
theorem dX10_days_57 : decode cX10_days 57 = .ok (.getfield 109, 3) := by decide +kernel
theorem dX10_days_60 : decode cX10_days 60 = .ok (.ifCond .ne 7, 3) := by decide +kernel
theorem dX10_days_63 : decode cX10_days 63 = .ok (.iconst 1, 1) := by decide +kernel
theorem dX10_days_64 : decode cX10_days 64 = .ok (.goto 9, 3) := by decide +kernel
theorem dX10_days_67 : decode cX10_days 67 = .ok (.iconst 2, 1) := by decide +kernel
theorem dX10_days_68 : decode cX10_days 68 = .ok (.aload_n 0, 1) := by decide +kernel
theorem dX10_days_69 : decode cX10_days 69 = .ok (.getfield 109, 3) := by decide +kernel
theorem dX10_days_72 : decode cX10_days 72 = .ok (.imul, 1) := by decide +kernel
theorem dX10_days_73 : decode cX10_days 73 = .ok (.imul, 1) := by decide +kernel
theorem dX10_days_74 : decode cX10_days 74 = .ok (.istore_n 3, 1) := by decide +kernel
theorem dX10_days_75 : decode cX10_days 75 = .ok (.aload_n 0, 1) := by decide +kernel
theorem dX10_days_76 : decode cX10_days 76 = .ok (.getfield 28, 3) := by decide +kernel
theorem dX10_days_79 : decode cX10_days 79 = .ok (.iload_n 2, 1) := by decide +kernel
theorem dX10_days_80 : decode cX10_days 80 = .ok (.aload_n 0, 1) := by decide +kernel
theorem dX10_days_81 : decode cX10_days 81 = .ok (.getfield 28, 3) := by decide +kernel
theorem dX10_days_84 : decode cX10_days 84 = .ok (.iload_n 2, 1) := by decide +kernel
theorem dX10_days_85 : decode cX10_days 85 = .ok (.iaload, 1) := by decide +kernel
theorem dX10_days_86 : decode cX10_days 86 = .ok (.iload_n 3, 1) := by decide +kernel
theorem dX10_days_87 : decode cX10_days 87 = .ok (.if_icmp .ge 7, 3) := by decide +kernel
theorem dX10_days_90 : decode cX10_days 90 = .ok (.iconst 0, 1) := by decide +kernel
theorem dX10_days_91 : decode cX10_days 91 = .ok (.goto 11, 3) := by decide +kernel
theorem dX10_days_94 : decode cX10_days 94 = .ok (.aload_n 0, 1) := by decide +kernel
theorem dX10_days_95 : decode cX10_days 95 = .ok (.getfield 28, 3) := by decide +kernel
theorem dX10_days_98 : decode cX10_days 98 = .ok (.iload_n 2, 1) := by decide +kernel
theorem dX10_days_99 : decode cX10_days 99 = .ok (.iaload, 1) := by decide +kernel
theorem dX10_days_100 : decode cX10_days 100 = .ok (.iload_n 3, 1) := by decide +kernel
theorem dX10_days_101 : decode cX10_days 101 = .ok (.isub, 1) := by decide +kernel
theorem dX10_days_102 : decode cX10_days 102 = .ok (.iastore, 1) := by decide +kernel
theorem dX10_days_103 : decode cX10_days 103 = .ok (.iinc 2 1, 3) := by decide +kernel
theorem dX10_days_106 : decode cX10_days 106 = .ok (.goto (-69), 3) := by decide +kernel
theorem dX10_days_109 : decode cX10_days 109 = .ok (.aload_n 0, 1) := by decide +kernel
theorem dX10_days_110 : decode cX10_days 110 = .ok (.getfield 112, 3) := by decide +kernel
theorem dX10_days_113 : decode cX10_days 113 = .ok (.ireturn, 1) := by decide +kernel
theorem dX10_sign_0 : decode cX10_sign 0 = .ok (.iload_n 1, 1) := by decide +kernel
theorem dX10_sign_1 : decode cX10_sign 1 = .ok (.invokestatic 101, 3) := by decide +kernel
theorem dX10_sign_4 : decode cX10_sign 4 = .ok (.ifCond .eq 21, 3) := by decide +kernel
theorem dX10_sign_7 : decode cX10_sign 7 = .ok (.iload_n 2, 1) := by decide +kernel
theorem dX10_sign_8 : decode cX10_sign 8 = .ok (.iconst 0, 1) := by decide +kernel
theorem dX10_sign_9 : decode cX10_sign 9 = .ok (.iconst 1, 1) := by decide +kernel
theorem dX10_sign_10 : decode cX10_sign 10 = .ok (.invokestatic 90, 3) := by decide +kernel
theorem dX10_sign_13 : decode cX10_sign 13 = .ok (.ifCond .eq 15, 3) := by decide +kernel
theorem dX10_sign_16 : decode cX10_sign 16 = .ok (.aload_n 0, 1) := by decide +kernel
theorem dX10_sign_17 : decode cX10_sign 17 = .ok (.iload_n 3, 1) := by decide +kernel
theorem dX10_sign_18 : decode cX10_sign 18 = .ok (.iload_n 1, 1) := by decide +kernel
theorem dX10_sign_19 : decode cX10_sign 19 = .ok (.invokevirtual 97, 3) := by decide +kernel
theorem dX10_sign_22 : decode cX10_sign 22 = .ok (.ifCond .ne 6, 3) := by decide +kernel
theorem dX10_sign_25 : decode cX10_sign 25 = .ok (.bipush (-2), 2) := by decide +kernel
theorem dX10_sign_27 : decode cX10_sign 27 = .ok (.ireturn, 1) := by decide +kernel
theorem dX10_sign_28 : decode cX10_sign 28 = .ok (.iload_n 2, 1) := by decide +kernel
theorem dX10_sign_29 : decode cX10_sign 29 = .ok (.iconst 0, 1) := by decide +kernel
theorem dX10_sign_30 : decode cX10_sign 30 = .ok (.iconst 3, 1) := by decide +kernel
theorem dX10_sign_31 : decode cX10_sign 31 = .ok (.invokestatic 90, 3) := by decide +kernel
theorem dX10_sign_34 : decode cX10_sign 34 = .ok (.ifCond .eq 56, 3) := by decide +kernel
theorem dX10_sign_37 : decode cX10_sign 37 = .ok (.iload_n 2, 1) := by decide +kernel
theorem dX10_sign_38 : decode cX10_sign 38 = .ok (.iconst 2, 1) := by decide +kernel
theorem dX10_sign_39 : decode cX10_sign 39 = .ok (.if_icmp .ne 13, 3) := by decide +kernel
theorem dX10_sign_42 : decode cX10_sign 42 = .ok (.iload_n 3, 1) := by decide +kernel
theorem dX10_sign_43 : decode cX10_sign 43 = .ok (.iconst 0, 1) := by decide +kernel
theorem dX10_sign_44 : decode cX10_sign 44 = .ok (.bipush 9, 2) := by decide +kernel
theorem dX10_sign_46 : decode cX10_sign 46 = .ok (.invokestatic 90, 3) := by decide +kernel
theorem dX10_sign_49 : decode cX10_sign 49 = .ok (.ifCond .eq 41, 3) := by decide +kernel
theorem dX10_sign_52 : decode cX10_sign 52 = .ok (.iload_n 2, 1) := by decide +kernel
theorem dX10_sign_53 : decode cX10_sign 53 = .ok (.iconst 3, 1) := by decide +kernel
theorem dX10_sign_54 : decode cX10_sign 54 = .ok (.if_icmp .ne 12, 3) := by decide +kernel
theorem dX10_sign_57 : decode cX10_sign 57 = .ok (.iload_n 3, 1) := by decide +kernel
theorem dX10_sign_58 : decode cX10_sign 58 = .ok (.iconst 0, 1) := by decide +kernel
theorem dX10_sign_59 : decode cX10_sign 59 = .ok (.iconst 5, 1) := by decide +kernel
theorem dX10_sign_60 : decode cX10_sign 60 = .ok (.invokestatic 90, 3) := by decide +kernel
theorem dX10_sign_63 : decode cX10_sign 63 = .ok (.ifCond .eq 27, 3) := by decide +kernel
theorem dX10_sign_66 : decode cX10_sign 66 = .ok (.iload 4, 2) := by decide +kernel
theorem dX10_sign_68 : decode cX10_sign 68 = .ok (.iconst 1, 1) := by decide +kernel
theorem dX10_sign_69 : decode cX10_sign 69 = .ok (.bipush 60, 2) := by decide +kernel
theorem dX10_sign_71 : decode cX10_sign 71 = .ok (.invokestatic 90, 3) := by decide +kernel
theorem dX10_sign_74 : decode cX10_sign 74 = .ok (.ifCond .eq 16, 3) := by decide +kernel
theorem dX10_sign_77 : decode cX10_sign 77 = .ok (.iload 5, 2) := by decide +kernel
theorem dX10_sign_79 : decode cX10_sign 79 = .ok (.aload_n 0, 1) := by decide +kernel
theorem dX10_sign_80 : decode cX10_sign 80 = .ok (.iload_n 1, 1) := by decide +kernel
theorem dX10_sign_81 : decode cX10_sign 81 = .ok (.invokevirtual 118, 3) := by decide +kernel
theorem dX10_sign_84 : decode cX10_sign 84 = .ok (.iconst (-1), 1) := by decide +kernel
theorem dX10_sign_85 : decode cX10_sign 85 = .ok (.ixor, 1) := by decide +kernel
theorem dX10_sign_86 : decode cX10_sign 86 = .ok (.iand, 1) := by decide +kernel
theorem dX10_sign_87 : decode cX10_sign 87 = .ok (.ifCond .eq 6, 3) := by decide +kernel
theorem dX10_sign_90 : decode cX10_sign 90 = .ok (.bipush (-3), 2) := by decide +kernel
theorem dX10_sign_92 : decode cX10_sign 92 = .ok (.ireturn, 1) := by decide +kernel
theorem dX10_sign_93 : decode cX10_sign 93 = .ok (.aload_n 0, 1) := by decide +kernel
theorem dX10_sign_94 : decode cX10_sign 94 = .ok (.getfield 115, 3) := by decide +kernel
theorem dX10_sign_97 : decode cX10_sign 97 = .ok (.bipush 24, 2) := by decide +kernel
theorem dX10_sign_99 : decode cX10_sign 99 = .ok (.if_icmp .ne 6, 3) := by decide +kernel
theorem dX10_sign_102 : decode cX10_sign 102 = .ok (.bipush (-5), 2) := by decide +kernel
theorem dX10_sign_104 : decode cX10_sign 104 = .ok (.ireturn, 1) := by decide +kernel
theorem dX10_sign_105 : decode cX10_sign 105 = .ok (.aload_n 0, 1) := by decide +kernel
theorem dX10_sign_106 : decode cX10_sign 106 = .ok (.getfield 19, 3) := by decide +kernel
theorem dX10_sign_109 : decode cX10_sign 109 = .ok (.aload_n 0, 1) := by decide +kernel
theorem dX10_sign_110 : decode cX10_sign 110 = .ok (.getfield 115, 3) := by decide +kernel
theorem dX10_sign_113 : decode cX10_sign 113 = .ok (.iload_n 1, 1) := by decide +kernel
theorem dX10_sign_114 : decode cX10_sign 114 = .ok (.iastore, 1) := by decide +kernel
theorem dX10_sign_115 : decode cX10_sign 115 = .ok (.aload_n 0, 1) := by decide +kernel
theorem dX10_sign_116 : decode cX10_sign 116 = .ok (.getfield 22, 3) := by decide +kernel
theorem dX10_sign_119 : decode cX10_sign 119 = .ok (.aload_n 0, 1) := by decide +kernel
theorem dX10_sign_120 : decode cX10_sign 120 = .ok (.getfield 115, 3) := by decide +kernel
theorem dX10_sign_123 : decode cX10_sign 123 = .ok (.iload_n 2, 1) := by decide +kernel
theorem dX10_sign_124 : decode cX10_sign 124 = .ok (.iastore, 1) := by decide +kernel
theorem dX10_sign_125 : decode cX10_sign 125 = .ok (.aload_n 0, 1) := by decide +kernel
theorem dX10_sign_126 : decode cX10_sign 126 = .ok (.getfield 25, 3) := by decide +kernel
theorem dX10_sign_129 : decode cX10_sign 129 = .ok (.aload_n 0, 1) := by decide +kernel
theorem dX10_sign_130 : decode cX10_sign 130 = .ok (.getfield 115, 3) := by decide +kernel
theorem dX10_sign_133 : decode cX10_sign 133 = .ok (.iload_n 3, 1) := by decide +kernel
theorem dX10_sign_134 : decode cX10_sign 134 = .ok (.iastore, 1) := by decide +kernel
theorem dX10_sign_135 : decode cX10_sign 135 = .ok (.aload_n 0, 1) := by decide +kernel
theorem dX10_sign_136 : decode cX10_sign 136 = .ok (.getfield 28, 3) := by decide +kernel
theorem dX10_sign_139 : decode cX10_sign 139 = .ok (.aload_n 0, 1) := by decide +kernel
theorem dX10_sign_140 : decode cX10_sign 140 = .ok (.getfield 115, 3) := by decide +kernel
theorem dX10_sign_143 : decode cX10_sign 143 = .ok (.iload 4, 2) := by decide +kernel
theorem dX10_sign_145 : decode cX10_sign 145 = .ok (.iastore, 1) := by decide +kernel
theorem dX10_sign_146 : decode cX10_sign 146 = .ok (.aload_n 0, 1) := by decide +kernel
theorem dX10_sign_147 : decode cX10_sign 147 = .ok (.getfield 31, 3) := by decide +kernel
theorem dX10_sign_150 : decode cX10_sign 150 = .ok (.aload_n 0, 1) := by decide +kernel
theorem dX10_sign_151 : decode cX10_sign 151 = .ok (.getfield 115, 3) := by decide +kernel
theorem dX10_sign_154 : decode cX10_sign 154 = .ok (.aload_n 0, 1) := by decide +kernel
theorem dX10_sign_155 : decode cX10_sign 155 = .ok (.getfield 112, 3) := by decide +kernel
theorem dX10_sign_158 : decode cX10_sign 158 = .ok (.iastore, 1) := by decide +kernel
theorem dX10_sign_159 : decode cX10_sign 159 = .ok (.aload_n 0, 1) := by decide +kernel
theorem dX10_sign_160 : decode cX10_sign 160 = .ok (.getfield 34, 3) := by decide +kernel
theorem dX10_sign_163 : decode cX10_sign 163 = .ok (.aload_n 0, 1) := by decide +kernel
theorem dX10_sign_164 : decode cX10_sign 164 = .ok (.getfield 115, 3) := by decide +kernel
theorem dX10_sign_167 : decode cX10_sign 167 = .ok (.iload 5, 2) := by decide +kernel
theorem dX10_sign_169 : decode cX10_sign 169 = .ok (.iastore, 1) := by decide +kernel
theorem dX10_sign_170 : decode cX10_sign 170 = .ok (.aload_n 0, 1) := by decide +kernel
theorem dX10_sign_171 : decode cX10_sign 171 = .ok (.getfield 37, 3) := by decide +kernel
theorem dX10_sign_174 : decode cX10_sign 174 = .ok (.aload_n 0, 1) := by decide +kernel
theorem dX10_sign_175 : decode cX10_sign 175 = .ok (.getfield 115, 3) := by decide +kernel
theorem dX10_sign_178 : decode cX10_sign 178 = .ok (.iload 6, 2) := by decide +kernel
theorem dX10_sign_180 : decode cX10_sign 180 = .ok (.bastore, 1) := by decide +kernel
theorem dX10_sign_181 : decode cX10_sign 181 = .ok (.aload_n 0, 1) := by decide +kernel
theorem dX10_sign_182 : decode cX10_sign 182 = .ok (.getfield 41, 3) := by decide +kernel
theorem dX10_sign_185 : decode cX10_sign 185 = .ok (.aload_n 0, 1) := by decide +kernel
theorem dX10_sign_186 : decode cX10_sign 186 = .ok (.getfield 115, 3) := by decide +kernel
theorem dX10_sign_189 : decode cX10_sign 189 = .ok (.iconst 0, 1) := by decide +kernel
theorem dX10_sign_190 : decode cX10_sign 190 = .ok (.bastore, 1) := by decide +kernel
theorem dX10_sign_191 : decode cX10_sign 191 = .ok (.aload_n 0, 1) := by decide +kernel
theorem dX10_sign_192 : decode cX10_sign 192 = .ok (.dup, 1) := by decide +kernel
theorem dX10_sign_193 : decode cX10_sign 193 = .ok (.getfield 115, 3) := by decide +kernel
theorem dX10_sign_196 : decode cX10_sign 196 = .ok (.iconst 1, 1) := by decide +kernel
theorem dX10_sign_197 : decode cX10_sign 197 = .ok (.iadd, 1) := by decide +kernel
theorem dX10_sign_198 : decode cX10_sign 198 = .ok (.putfield 115, 3) := by decide +kernel
theorem dX10_sign_201 : decode cX10_sign 201 = .ok (.aload_n 0, 1) := by decide +kernel
theorem dX10_sign_202 : decode cX10_sign 202 = .ok (.getfield 115, 3) := by decide +kernel
theorem dX10_sign_205 : decode cX10_sign 205 = .ok (.iconst 1, 1) := by decide +kernel
theorem dX10_sign_206 : decode cX10_sign 206 = .ok (.isub, 1) := by decide +kernel
theorem dX10_sign_207 : decode cX10_sign 207 = .ok (.ireturn, 1) := by decide +kernel
theorem dX10_turn_0 : decode cX10_turn 0 = .ok (.iload_n 1, 1) := by decide +kernel
theorem dX10_turn_1 : decode cX10_turn 1 = .ok (.iconst 0, 1) := by decide +kernel
theorem dX10_turn_2 : decode cX10_turn 2 = .ok (.aload_n 0, 1) := by decide +kernel
theorem dX10_turn_3 : decode cX10_turn 3 = .ok (.getfield 115, 3) := by decide +kernel
theorem dX10_turn_6 : decode cX10_turn 6 = .ok (.iconst 1, 1) := by decide +kernel
theorem dX10_turn_7 : decode cX10_turn 7 = .ok (.isub, 1) := by decide +kernel
theorem dX10_turn_8 : decode cX10_turn 8 = .ok (.invokestatic 90, 3) := by decide +kernel
theorem dX10_turn_11 : decode cX10_turn 11 = .ok (.ifCond .eq 17, 3) := by decide +kernel
theorem dX10_turn_14 : decode cX10_turn 14 = .ok (.aload_n 0, 1) := by decide +kernel
theorem dX10_turn_15 : decode cX10_turn 15 = .ok (.iload_n 2, 1) := by decide +kernel
theorem dX10_turn_16 : decode cX10_turn 16 = .ok (.aload_n 0, 1) := by decide +kernel
theorem dX10_turn_17 : decode cX10_turn 17 = .ok (.getfield 19, 3) := by decide +kernel
theorem dX10_turn_20 : decode cX10_turn 20 = .ok (.iload_n 1, 1) := by decide +kernel
theorem dX10_turn_21 : decode cX10_turn 21 = .ok (.iaload, 1) := by decide +kernel
theorem dX10_turn_22 : decode cX10_turn 22 = .ok (.invokevirtual 97, 3) := by decide +kernel
theorem dX10_turn_25 : decode cX10_turn 25 = .ok (.ifCond .ne 6, 3) := by decide +kernel
theorem dX10_turn_28 : decode cX10_turn 28 = .ok (.bipush (-2), 2) := by decide +kernel
theorem dX10_turn_30 : decode cX10_turn 30 = .ok (.ireturn, 1) := by decide +kernel
theorem dX10_turn_31 : decode cX10_turn 31 = .ok (.aload_n 0, 1) := by decide +kernel
theorem dX10_turn_32 : decode cX10_turn 32 = .ok (.getfield 22, 3) := by decide +kernel
theorem dX10_turn_35 : decode cX10_turn 35 = .ok (.iload_n 1, 1) := by decide +kernel
theorem dX10_turn_36 : decode cX10_turn 36 = .ok (.iaload, 1) := by decide +kernel
theorem dX10_turn_37 : decode cX10_turn 37 = .ok (.ifCond .ne 22, 3) := by decide +kernel
theorem dX10_turn_40 : decode cX10_turn 40 = .ok (.aload_n 0, 1) := by decide +kernel
theorem dX10_turn_41 : decode cX10_turn 41 = .ok (.getfield 28, 3) := by decide +kernel
theorem dX10_turn_44 : decode cX10_turn 44 = .ok (.iload_n 1, 1) := by decide +kernel
theorem dX10_turn_45 : decode cX10_turn 45 = .ok (.iaload, 1) := by decide +kernel
theorem dX10_turn_46 : decode cX10_turn 46 = .ok (.ifCond .eq 13, 3) := by decide +kernel
theorem dX10_turn_49 : decode cX10_turn 49 = .ok (.aload_n 0, 1) := by decide +kernel
theorem dX10_turn_50 : decode cX10_turn 50 = .ok (.getfield 25, 3) := by decide +kernel
theorem dX10_turn_53 : decode cX10_turn 53 = .ok (.iload_n 1, 1) := by decide +kernel
theorem dX10_turn_54 : decode cX10_turn 54 = .ok (.iaload, 1) := by decide +kernel
theorem dX10_turn_55 : decode cX10_turn 55 = .ok (.iload_n 2, 1) := by decide +kernel
theorem dX10_turn_56 : decode cX10_turn 56 = .ok (.if_icmp .ne 6, 3) := by decide +kernel
theorem dX10_turn_59 : decode cX10_turn 59 = .ok (.bipush (-4), 2) := by decide +kernel
theorem dX10_turn_61 : decode cX10_turn 61 = .ok (.ireturn, 1) := by decide +kernel
theorem dX10_turn_62 : decode cX10_turn 62 = .ok (.aload_n 0, 1) := by decide +kernel
theorem dX10_turn_63 : decode cX10_turn 63 = .ok (.getfield 25, 3) := by decide +kernel
theorem dX10_turn_66 : decode cX10_turn 66 = .ok (.iload_n 1, 1) := by decide +kernel
theorem dX10_turn_67 : decode cX10_turn 67 = .ok (.iaload, 1) := by decide +kernel
theorem dX10_turn_68 : decode cX10_turn 68 = .ok (.istore_n 3, 1) := by decide +kernel
theorem dX10_turn_69 : decode cX10_turn 69 = .ok (.aload_n 0, 1) := by decide +kernel
theorem dX10_turn_70 : decode cX10_turn 70 = .ok (.getfield 25, 3) := by decide +kernel
theorem dX10_turn_73 : decode cX10_turn 73 = .ok (.iload_n 1, 1) := by decide +kernel
theorem dX10_turn_74 : decode cX10_turn 74 = .ok (.iload_n 2, 1) := by decide +kernel
theorem dX10_turn_75 : decode cX10_turn 75 = .ok (.iastore, 1) := by decide +kernel
theorem dX10_turn_76 : decode cX10_turn 76 = .ok (.aload_n 0, 1) := by decide +kernel
theorem dX10_turn_77 : decode cX10_turn 77 = .ok (.getfield 41, 3) := by decide +kernel
theorem dX10_turn_80 : decode cX10_turn 80 = .ok (.iload_n 1, 1) := by decide +kernel
theorem dX10_turn_81 : decode cX10_turn 81 = .ok (.iconst 1, 1) := by decide +kernel
theorem dX10_turn_82 : decode cX10_turn 82 = .ok (.bastore, 1) := by decide +kernel
theorem dX10_turn_83 : decode cX10_turn 83 = .ok (.iload_n 3, 1) := by decide +kernel
theorem dX10_turn_84 : decode cX10_turn 84 = .ok (.ireturn, 1) := by decide +kernel
theorem dX10_at_0 : decode cX10_at 0 = .ok (.iload_n 1, 1) := by decide +kernel
theorem dX10_at_1 : decode cX10_at 1 = .ok (.iconst 0, 1) := by decide +kernel
theorem dX10_at_2 : decode cX10_at 2 = .ok (.aload_n 0, 1) := by decide +kernel
theorem dX10_at_3 : decode cX10_at 3 = .ok (.getfield 115, 3) := by decide +kernel
theorem dX10_at_6 : decode cX10_at 6 = .ok (.iconst 1, 1) := by decide +kernel
theorem dX10_at_7 : decode cX10_at 7 = .ok (.isub, 1) := by decide +kernel
theorem dX10_at_8 : decode cX10_at 8 = .ok (.invokestatic 90, 3) := by decide +kernel
theorem dX10_at_11 : decode cX10_at 11 = .ok (.ifCond .ne 6, 3) := by decide +kernel
theorem dX10_at_14 : decode cX10_at 14 = .ok (.bipush (-2), 2) := by decide +kernel
theorem dX10_at_16 : decode cX10_at 16 = .ok (.ireturn, 1) := by decide +kernel
theorem dX10_at_17 : decode cX10_at 17 = .ok (.iload_n 2, 1) := by decide +kernel
theorem dX10_at_18 : decode cX10_at 18 = .ok (.tableswitch 88 0 5 #[38, 45, 52, 59, 66, 73], 38) := by decide +kernel
theorem dX10_at_56 : decode cX10_at 56 = .ok (.aload_n 0, 1) := by decide +kernel
theorem dX10_at_57 : decode cX10_at 57 = .ok (.getfield 19, 3) := by decide +kernel
theorem dX10_at_60 : decode cX10_at 60 = .ok (.iload_n 1, 1) := by decide +kernel
theorem dX10_at_61 : decode cX10_at 61 = .ok (.iaload, 1) := by decide +kernel
theorem dX10_at_62 : decode cX10_at 62 = .ok (.ireturn, 1) := by decide +kernel
theorem dX10_at_63 : decode cX10_at 63 = .ok (.aload_n 0, 1) := by decide +kernel
theorem dX10_at_64 : decode cX10_at 64 = .ok (.getfield 22, 3) := by decide +kernel
theorem dX10_at_67 : decode cX10_at 67 = .ok (.iload_n 1, 1) := by decide +kernel
theorem dX10_at_68 : decode cX10_at 68 = .ok (.iaload, 1) := by decide +kernel
theorem dX10_at_69 : decode cX10_at 69 = .ok (.ireturn, 1) := by decide +kernel
theorem dX10_at_70 : decode cX10_at 70 = .ok (.aload_n 0, 1) := by decide +kernel
theorem dX10_at_71 : decode cX10_at 71 = .ok (.getfield 25, 3) := by decide +kernel
theorem dX10_at_74 : decode cX10_at 74 = .ok (.iload_n 1, 1) := by decide +kernel
theorem dX10_at_75 : decode cX10_at 75 = .ok (.iaload, 1) := by decide +kernel
theorem dX10_at_76 : decode cX10_at 76 = .ok (.ireturn, 1) := by decide +kernel
theorem dX10_at_77 : decode cX10_at 77 = .ok (.aload_n 0, 1) := by decide +kernel
theorem dX10_at_78 : decode cX10_at 78 = .ok (.getfield 28, 3) := by decide +kernel
theorem dX10_at_81 : decode cX10_at 81 = .ok (.iload_n 1, 1) := by decide +kernel
theorem dX10_at_82 : decode cX10_at 82 = .ok (.iaload, 1) := by decide +kernel
theorem dX10_at_83 : decode cX10_at 83 = .ok (.ireturn, 1) := by decide +kernel
theorem dX10_at_84 : decode cX10_at 84 = .ok (.aload_n 0, 1) := by decide +kernel
theorem dX10_at_85 : decode cX10_at 85 = .ok (.getfield 31, 3) := by decide +kernel
theorem dX10_at_88 : decode cX10_at 88 = .ok (.iload_n 1, 1) := by decide +kernel
theorem dX10_at_89 : decode cX10_at 89 = .ok (.iaload, 1) := by decide +kernel
theorem dX10_at_90 : decode cX10_at 90 = .ok (.ireturn, 1) := by decide +kernel
theorem dX10_at_91 : decode cX10_at 91 = .ok (.aload_n 0, 1) := by decide +kernel
theorem dX10_at_92 : decode cX10_at 92 = .ok (.getfield 41, 3) := by decide +kernel
theorem dX10_at_95 : decode cX10_at 95 = .ok (.iload_n 1, 1) := by decide +kernel
theorem dX10_at_96 : decode cX10_at 96 = .ok (.baload, 1) := by decide +kernel
theorem dX10_at_97 : decode cX10_at 97 = .ok (.ifCond .eq 7, 3) := by decide +kernel
theorem dX10_at_100 : decode cX10_at 100 = .ok (.iconst 1, 1) := by decide +kernel
theorem dX10_at_101 : decode cX10_at 101 = .ok (.goto 4, 3) := by decide +kernel
theorem dX10_at_104 : decode cX10_at 104 = .ok (.iconst 0, 1) := by decide +kernel
theorem dX10_at_105 : decode cX10_at 105 = .ok (.ireturn, 1) := by decide +kernel
theorem dX10_at_106 : decode cX10_at 106 = .ok (.bipush (-3), 2) := by decide +kernel
theorem dX10_at_108 : decode cX10_at 108 = .ok (.ireturn, 1) := by decide +kernel
theorem dX10_set_0 : decode cX10_set 0 = .ok (.iload_n 1, 1) := by decide +kernel
theorem dX10_set_1 : decode cX10_set 1 = .ok (.iconst 0, 1) := by decide +kernel
theorem dX10_set_2 : decode cX10_set 2 = .ok (.iconst 2, 1) := by decide +kernel
theorem dX10_set_3 : decode cX10_set 3 = .ok (.invokestatic 90, 3) := by decide +kernel
theorem dX10_set_6 : decode cX10_set 6 = .ok (.ifCond .eq 32, 3) := by decide +kernel
theorem dX10_set_9 : decode cX10_set 9 = .ok (.iload_n 2, 1) := by decide +kernel
theorem dX10_set_10 : decode cX10_set 10 = .ok (.iload_n 1, 1) := by decide +kernel
theorem dX10_set_11 : decode cX10_set 11 = .ok (.iconst 2, 1) := by decide +kernel
theorem dX10_set_12 : decode cX10_set 12 = .ok (.if_icmp .ne 7, 3) := by decide +kernel
theorem dX10_set_15 : decode cX10_set 15 = .ok (.iconst 1, 1) := by decide +kernel
theorem dX10_set_16 : decode cX10_set 16 = .ok (.goto 4, 3) := by decide +kernel
theorem dX10_set_19 : decode cX10_set 19 = .ok (.iconst 0, 1) := by decide +kernel
theorem dX10_set_20 : decode cX10_set 20 = .ok (.iload_n 1, 1) := by decide +kernel
theorem dX10_set_21 : decode cX10_set 21 = .ok (.iconst 2, 1) := by decide +kernel
theorem dX10_set_22 : decode cX10_set 22 = .ok (.if_icmp .ne 8, 3) := by decide +kernel
theorem dX10_set_25 : decode cX10_set 25 = .ok (.bipush 40, 2) := by decide +kernel
theorem dX10_set_27 : decode cX10_set 27 = .ok (.goto 5, 3) := by decide +kernel
theorem dX10_set_30 : decode cX10_set 30 = .ok (.bipush 9, 2) := by decide +kernel
theorem dX10_set_32 : decode cX10_set 32 = .ok (.invokestatic 90, 3) := by decide +kernel
theorem dX10_set_35 : decode cX10_set 35 = .ok (.ifCond .ne 6, 3) := by decide +kernel
theorem dX10_set_38 : decode cX10_set 38 = .ok (.bipush (-3), 2) := by decide +kernel
theorem dX10_set_40 : decode cX10_set 40 = .ok (.ireturn, 1) := by decide +kernel
theorem dX10_set_41 : decode cX10_set 41 = .ok (.iload_n 1, 1) := by decide +kernel
theorem dX10_set_42 : decode cX10_set 42 = .ok (.ifCond .ne 10, 3) := by decide +kernel
theorem dX10_set_45 : decode cX10_set 45 = .ok (.aload_n 0, 1) := by decide +kernel
theorem dX10_set_46 : decode cX10_set 46 = .ok (.getfield 122, 3) := by decide +kernel
theorem dX10_set_49 : decode cX10_set 49 = .ok (.goto 19, 3) := by decide +kernel
theorem dX10_set_52 : decode cX10_set 52 = .ok (.iload_n 1, 1) := by decide +kernel
theorem dX10_set_53 : decode cX10_set 53 = .ok (.iconst 1, 1) := by decide +kernel
theorem dX10_set_54 : decode cX10_set 54 = .ok (.if_icmp .ne 10, 3) := by decide +kernel
theorem dX10_set_57 : decode cX10_set 57 = .ok (.aload_n 0, 1) := by decide +kernel
theorem dX10_set_58 : decode cX10_set 58 = .ok (.getfield 125, 3) := by decide +kernel
theorem dX10_set_61 : decode cX10_set 61 = .ok (.goto 7, 3) := by decide +kernel
theorem dX10_set_64 : decode cX10_set 64 = .ok (.aload_n 0, 1) := by decide +kernel
theorem dX10_set_65 : decode cX10_set 65 = .ok (.getfield 44, 3) := by decide +kernel
theorem dX10_set_68 : decode cX10_set 68 = .ok (.istore_n 3, 1) := by decide +kernel
theorem dX10_set_69 : decode cX10_set 69 = .ok (.aload_n 0, 1) := by decide +kernel
theorem dX10_set_70 : decode cX10_set 70 = .ok (.iload_n 1, 1) := by decide +kernel
theorem dX10_set_71 : decode cX10_set 71 = .ok (.ifCond .ne 7, 3) := by decide +kernel
theorem dX10_set_74 : decode cX10_set 74 = .ok (.iload_n 2, 1) := by decide +kernel
theorem dX10_set_75 : decode cX10_set 75 = .ok (.goto 7, 3) := by decide +kernel
theorem dX10_set_78 : decode cX10_set 78 = .ok (.aload_n 0, 1) := by decide +kernel
theorem dX10_set_79 : decode cX10_set 79 = .ok (.getfield 122, 3) := by decide +kernel
theorem dX10_set_82 : decode cX10_set 82 = .ok (.putfield 122, 3) := by decide +kernel
theorem dX10_set_85 : decode cX10_set 85 = .ok (.aload_n 0, 1) := by decide +kernel
theorem dX10_set_86 : decode cX10_set 86 = .ok (.iload_n 1, 1) := by decide +kernel
theorem dX10_set_87 : decode cX10_set 87 = .ok (.iconst 1, 1) := by decide +kernel
theorem dX10_set_88 : decode cX10_set 88 = .ok (.if_icmp .ne 7, 3) := by decide +kernel
theorem dX10_set_91 : decode cX10_set 91 = .ok (.iload_n 2, 1) := by decide +kernel
theorem dX10_set_92 : decode cX10_set 92 = .ok (.goto 7, 3) := by decide +kernel
theorem dX10_set_95 : decode cX10_set 95 = .ok (.aload_n 0, 1) := by decide +kernel
theorem dX10_set_96 : decode cX10_set 96 = .ok (.getfield 125, 3) := by decide +kernel
theorem dX10_set_99 : decode cX10_set 99 = .ok (.putfield 125, 3) := by decide +kernel
theorem dX10_set_102 : decode cX10_set 102 = .ok (.aload_n 0, 1) := by decide +kernel
theorem dX10_set_103 : decode cX10_set 103 = .ok (.iload_n 1, 1) := by decide +kernel
theorem dX10_set_104 : decode cX10_set 104 = .ok (.iconst 2, 1) := by decide +kernel
theorem dX10_set_105 : decode cX10_set 105 = .ok (.if_icmp .ne 7, 3) := by decide +kernel
theorem dX10_set_108 : decode cX10_set 108 = .ok (.iload_n 2, 1) := by decide +kernel
theorem dX10_set_109 : decode cX10_set 109 = .ok (.goto 7, 3) := by decide +kernel
theorem dX10_set_112 : decode cX10_set 112 = .ok (.aload_n 0, 1) := by decide +kernel
theorem dX10_set_113 : decode cX10_set 113 = .ok (.getfield 44, 3) := by decide +kernel
theorem dX10_set_116 : decode cX10_set 116 = .ok (.putfield 44, 3) := by decide +kernel
theorem dX10_set_119 : decode cX10_set 119 = .ok (.iload_n 3, 1) := by decide +kernel
theorem dX10_set_120 : decode cX10_set 120 = .ok (.ireturn, 1) := by decide +kernel
theorem dX10_seenBy_0 : decode cX10_seenBy 0 = .ok (.iconst 0, 1) := by decide +kernel
theorem dX10_seenBy_1 : decode cX10_seenBy 1 = .ok (.istore_n 3, 1) := by decide +kernel
theorem dX10_seenBy_2 : decode cX10_seenBy 2 = .ok (.iconst 0, 1) := by decide +kernel
theorem dX10_seenBy_3 : decode cX10_seenBy 3 = .ok (.istore 4, 2) := by decide +kernel
theorem dX10_seenBy_5 : decode cX10_seenBy 5 = .ok (.iload 4, 2) := by decide +kernel
theorem dX10_seenBy_7 : decode cX10_seenBy 7 = .ok (.aload_n 0, 1) := by decide +kernel
theorem dX10_seenBy_8 : decode cX10_seenBy 8 = .ok (.getfield 115, 3) := by decide +kernel
theorem dX10_seenBy_11 : decode cX10_seenBy 11 = .ok (.if_icmp .ge 134, 3) := by decide +kernel
theorem dX10_seenBy_14 : decode cX10_seenBy 14 = .ok (.aload_n 0, 1) := by decide +kernel
theorem dX10_seenBy_15 : decode cX10_seenBy 15 = .ok (.getfield 19, 3) := by decide +kernel
theorem dX10_seenBy_18 : decode cX10_seenBy 18 = .ok (.iload 4, 2) := by decide +kernel
theorem dX10_seenBy_20 : decode cX10_seenBy 20 = .ok (.iaload, 1) := by decide +kernel
theorem dX10_seenBy_21 : decode cX10_seenBy 21 = .ok (.iload_n 1, 1) := by decide +kernel
theorem dX10_seenBy_22 : decode cX10_seenBy 22 = .ok (.if_icmp .ne 17, 3) := by decide +kernel
theorem dX10_seenBy_25 : decode cX10_seenBy 25 = .ok (.aload_n 0, 1) := by decide +kernel
theorem dX10_seenBy_26 : decode cX10_seenBy 26 = .ok (.getfield 28, 3) := by decide +kernel
theorem dX10_seenBy_29 : decode cX10_seenBy 29 = .ok (.iload 4, 2) := by decide +kernel
theorem dX10_seenBy_31 : decode cX10_seenBy 31 = .ok (.iaload, 1) := by decide +kernel
theorem dX10_seenBy_32 : decode cX10_seenBy 32 = .ok (.ifCond .le 7, 3) := by decide +kernel
theorem dX10_seenBy_35 : decode cX10_seenBy 35 = .ok (.iconst 1, 1) := by decide +kernel
theorem dX10_seenBy_36 : decode cX10_seenBy 36 = .ok (.goto 4, 3) := by decide +kernel
theorem dX10_seenBy_39 : decode cX10_seenBy 39 = .ok (.iconst 0, 1) := by decide +kernel
theorem dX10_seenBy_40 : decode cX10_seenBy 40 = .ok (.istore 5, 2) := by decide +kernel
theorem dX10_seenBy_42 : decode cX10_seenBy 42 = .ok (.iload_n 2, 1) := by decide +kernel
theorem dX10_seenBy_43 : decode cX10_seenBy 43 = .ok (.iconst (-1), 1) := by decide +kernel
theorem dX10_seenBy_44 : decode cX10_seenBy 44 = .ok (.if_icmp .ne 28, 3) := by decide +kernel
theorem dX10_seenBy_47 : decode cX10_seenBy 47 = .ok (.iload 5, 2) := by decide +kernel
theorem dX10_seenBy_49 : decode cX10_seenBy 49 = .ok (.ifCond .eq 17, 3) := by decide +kernel
theorem dX10_seenBy_52 : decode cX10_seenBy 52 = .ok (.aload_n 0, 1) := by decide +kernel
theorem dX10_seenBy_53 : decode cX10_seenBy 53 = .ok (.getfield 37, 3) := by decide +kernel
theorem dX10_seenBy_56 : decode cX10_seenBy 56 = .ok (.iload 4, 2) := by decide +kernel
theorem dX10_seenBy_58 : decode cX10_seenBy 58 = .ok (.baload, 1) := by decide +kernel
theorem dX10_seenBy_59 : decode cX10_seenBy 59 = .ok (.ifCond .eq 7, 3) := by decide +kernel
theorem dX10_seenBy_62 : decode cX10_seenBy 62 = .ok (.iconst 1, 1) := by decide +kernel
theorem dX10_seenBy_63 : decode cX10_seenBy 63 = .ok (.goto 4, 3) := by decide +kernel
theorem dX10_seenBy_66 : decode cX10_seenBy 66 = .ok (.iconst 0, 1) := by decide +kernel
theorem dX10_seenBy_67 : decode cX10_seenBy 67 = .ok (.istore 5, 2) := by decide +kernel
theorem dX10_seenBy_69 : decode cX10_seenBy 69 = .ok (.goto 54, 3) := by decide +kernel
theorem dX10_seenBy_72 : decode cX10_seenBy 72 = .ok (.iload 5, 2) := by decide +kernel
theorem dX10_seenBy_74 : decode cX10_seenBy 74 = .ok (.ifCond .eq 46, 3) := by decide +kernel
theorem dX10_seenBy_77 : decode cX10_seenBy 77 = .ok (.aload_n 0, 1) := by decide +kernel
theorem dX10_seenBy_78 : decode cX10_seenBy 78 = .ok (.getfield 34, 3) := by decide +kernel
theorem dX10_seenBy_81 : decode cX10_seenBy 81 = .ok (.iload 4, 2) := by decide +kernel
theorem dX10_seenBy_83 : decode cX10_seenBy 83 = .ok (.iaload, 1) := by decide +kernel
theorem dX10_seenBy_84 : decode cX10_seenBy 84 = .ok (.iload_n 2, 1) := by decide +kernel
theorem dX10_seenBy_85 : decode cX10_seenBy 85 = .ok (.ishr, 1) := by decide +kernel
theorem dX10_seenBy_86 : decode cX10_seenBy 86 = .ok (.iconst 1, 1) := by decide +kernel
theorem dX10_seenBy_87 : decode cX10_seenBy 87 = .ok (.iand, 1) := by decide +kernel
theorem dX10_seenBy_88 : decode cX10_seenBy 88 = .ok (.iconst 1, 1) := by decide +kernel
theorem dX10_seenBy_89 : decode cX10_seenBy 89 = .ok (.if_icmp .ne 31, 3) := by decide +kernel
theorem dX10_seenBy_92 : decode cX10_seenBy 92 = .ok (.aload_n 0, 1) := by decide +kernel
theorem dX10_seenBy_93 : decode cX10_seenBy 93 = .ok (.getfield 22, 3) := by decide +kernel
theorem dX10_seenBy_96 : decode cX10_seenBy 96 = .ok (.iload 4, 2) := by decide +kernel
theorem dX10_seenBy_98 : decode cX10_seenBy 98 = .ok (.iaload, 1) := by decide +kernel
theorem dX10_seenBy_99 : decode cX10_seenBy 99 = .ok (.iconst 1, 1) := by decide +kernel
theorem dX10_seenBy_100 : decode cX10_seenBy 100 = .ok (.if_icmp .gt 16, 3) := by decide +kernel
theorem dX10_seenBy_103 : decode cX10_seenBy 103 = .ok (.aload_n 0, 1) := by decide +kernel
theorem dX10_seenBy_104 : decode cX10_seenBy 104 = .ok (.getfield 16, 3) := by decide +kernel
theorem dX10_seenBy_107 : decode cX10_seenBy 107 = .ok (.iload_n 2, 1) := by decide +kernel
theorem dX10_seenBy_108 : decode cX10_seenBy 108 = .ok (.iaload, 1) := by decide +kernel
theorem dX10_seenBy_109 : decode cX10_seenBy 109 = .ok (.aload_n 0, 1) := by decide +kernel
theorem dX10_seenBy_110 : decode cX10_seenBy 110 = .ok (.getfield 122, 3) := by decide +kernel
theorem dX10_seenBy_113 : decode cX10_seenBy 113 = .ok (.if_icmp .lt 7, 3) := by decide +kernel
theorem dX10_seenBy_116 : decode cX10_seenBy 116 = .ok (.iconst 1, 1) := by decide +kernel
theorem dX10_seenBy_117 : decode cX10_seenBy 117 = .ok (.goto 4, 3) := by decide +kernel
theorem dX10_seenBy_120 : decode cX10_seenBy 120 = .ok (.iconst 0, 1) := by decide +kernel
theorem dX10_seenBy_121 : decode cX10_seenBy 121 = .ok (.istore 5, 2) := by decide +kernel
theorem dX10_seenBy_123 : decode cX10_seenBy 123 = .ok (.iload_n 3, 1) := by decide +kernel
theorem dX10_seenBy_124 : decode cX10_seenBy 124 = .ok (.iload 5, 2) := by decide +kernel
theorem dX10_seenBy_126 : decode cX10_seenBy 126 = .ok (.ifCond .eq 10, 3) := by decide +kernel
theorem dX10_seenBy_129 : decode cX10_seenBy 129 = .ok (.iconst 1, 1) := by decide +kernel
theorem dX10_seenBy_130 : decode cX10_seenBy 130 = .ok (.iload 4, 2) := by decide +kernel
theorem dX10_seenBy_132 : decode cX10_seenBy 132 = .ok (.ishl, 1) := by decide +kernel
theorem dX10_seenBy_133 : decode cX10_seenBy 133 = .ok (.goto 4, 3) := by decide +kernel
theorem dX10_seenBy_136 : decode cX10_seenBy 136 = .ok (.iconst 0, 1) := by decide +kernel
theorem dX10_seenBy_137 : decode cX10_seenBy 137 = .ok (.ior, 1) := by decide +kernel
theorem dX10_seenBy_138 : decode cX10_seenBy 138 = .ok (.istore_n 3, 1) := by decide +kernel
theorem dX10_seenBy_139 : decode cX10_seenBy 139 = .ok (.iinc 4 1, 3) := by decide +kernel
theorem dX10_seenBy_142 : decode cX10_seenBy 142 = .ok (.goto (-137), 3) := by decide +kernel
theorem dX10_seenBy_145 : decode cX10_seenBy 145 = .ok (.iload_n 3, 1) := by decide +kernel
theorem dX10_seenBy_146 : decode cX10_seenBy 146 = .ok (.ireturn, 1) := by decide +kernel
theorem dX10_seen_0 : decode cX10_seen 0 = .ok (.iload_n 1, 1) := by decide +kernel
theorem dX10_seen_1 : decode cX10_seen 1 = .ok (.invokestatic 101, 3) := by decide +kernel
theorem dX10_seen_4 : decode cX10_seen 4 = .ok (.ifCond .eq 17, 3) := by decide +kernel
theorem dX10_seen_7 : decode cX10_seen 7 = .ok (.iload_n 2, 1) := by decide +kernel
theorem dX10_seen_8 : decode cX10_seen 8 = .ok (.iconst (-1), 1) := by decide +kernel
theorem dX10_seen_9 : decode cX10_seen 9 = .ok (.if_icmp .eq 15, 3) := by decide +kernel
theorem dX10_seen_12 : decode cX10_seen 12 = .ok (.aload_n 0, 1) := by decide +kernel
theorem dX10_seen_13 : decode cX10_seen 13 = .ok (.iload_n 2, 1) := by decide +kernel
theorem dX10_seen_14 : decode cX10_seen 14 = .ok (.iload_n 1, 1) := by decide +kernel
theorem dX10_seen_15 : decode cX10_seen 15 = .ok (.invokevirtual 97, 3) := by decide +kernel
theorem dX10_seen_18 : decode cX10_seen 18 = .ok (.ifCond .ne 6, 3) := by decide +kernel
theorem dX10_seen_21 : decode cX10_seen 21 = .ok (.bipush (-2), 2) := by decide +kernel
theorem dX10_seen_23 : decode cX10_seen 23 = .ok (.ireturn, 1) := by decide +kernel
theorem dX10_seen_24 : decode cX10_seen 24 = .ok (.aload_n 0, 1) := by decide +kernel
theorem dX10_seen_25 : decode cX10_seen 25 = .ok (.iload_n 1, 1) := by decide +kernel
theorem dX10_seen_26 : decode cX10_seen 26 = .ok (.iload_n 2, 1) := by decide +kernel
theorem dX10_seen_27 : decode cX10_seen 27 = .ok (.invokevirtual 128, 3) := by decide +kernel
theorem dX10_seen_30 : decode cX10_seen 30 = .ok (.ireturn, 1) := by decide +kernel
theorem dX10_goesBy_0 : decode cX10_goesBy 0 = .ok (.aload_n 0, 1) := by decide +kernel
theorem dX10_goesBy_1 : decode cX10_goesBy 1 = .ok (.iload_n 1, 1) := by decide +kernel
theorem dX10_goesBy_2 : decode cX10_goesBy 2 = .ok (.iload_n 2, 1) := by decide +kernel
theorem dX10_goesBy_3 : decode cX10_goesBy 3 = .ok (.invokevirtual 128, 3) := by decide +kernel
theorem dX10_goesBy_6 : decode cX10_goesBy 6 = .ok (.istore_n 3, 1) := by decide +kernel
theorem dX10_goesBy_7 : decode cX10_goesBy 7 = .ok (.iconst (-1), 1) := by decide +kernel
theorem dX10_goesBy_8 : decode cX10_goesBy 8 = .ok (.istore 4, 2) := by decide +kernel
theorem dX10_goesBy_10 : decode cX10_goesBy 10 = .ok (.aload_n 0, 1) := by decide +kernel
theorem dX10_goesBy_11 : decode cX10_goesBy 11 = .ok (.iload_n 1, 1) := by decide +kernel
theorem dX10_goesBy_12 : decode cX10_goesBy 12 = .ok (.invokevirtual 118, 3) := by decide +kernel
theorem dX10_goesBy_15 : decode cX10_goesBy 15 = .ok (.iload_n 2, 1) := by decide +kernel
theorem dX10_goesBy_16 : decode cX10_goesBy 16 = .ok (.iconst (-1), 1) := by decide +kernel
theorem dX10_goesBy_17 : decode cX10_goesBy 17 = .ok (.if_icmp .ne 7, 3) := by decide +kernel
theorem dX10_goesBy_20 : decode cX10_goesBy 20 = .ok (.iconst 0, 1) := by decide +kernel
theorem dX10_goesBy_21 : decode cX10_goesBy 21 = .ok (.goto 6, 3) := by decide +kernel
theorem dX10_goesBy_24 : decode cX10_goesBy 24 = .ok (.iconst 1, 1) := by decide +kernel
theorem dX10_goesBy_25 : decode cX10_goesBy 25 = .ok (.iload_n 2, 1) := by decide +kernel
theorem dX10_goesBy_26 : decode cX10_goesBy 26 = .ok (.ishl, 1) := by decide +kernel
theorem dX10_goesBy_27 : decode cX10_goesBy 27 = .ok (.iconst (-1), 1) := by decide +kernel
theorem dX10_goesBy_28 : decode cX10_goesBy 28 = .ok (.ixor, 1) := by decide +kernel
theorem dX10_goesBy_29 : decode cX10_goesBy 29 = .ok (.iand, 1) := by decide +kernel
theorem dX10_goesBy_30 : decode cX10_goesBy 30 = .ok (.istore 5, 2) := by decide +kernel
theorem dX10_goesBy_32 : decode cX10_goesBy 32 = .ok (.iload 5, 2) := by decide +kernel
theorem dX10_goesBy_34 : decode cX10_goesBy 34 = .ok (.istore 6, 2) := by decide +kernel
theorem dX10_goesBy_36 : decode cX10_goesBy 36 = .ok (.iconst 0, 1) := by decide +kernel
theorem dX10_goesBy_37 : decode cX10_goesBy 37 = .ok (.istore 7, 2) := by decide +kernel
theorem dX10_goesBy_39 : decode cX10_goesBy 39 = .ok (.iload 7, 2) := by decide +kernel
theorem dX10_goesBy_41 : decode cX10_goesBy 41 = .ok (.aload_n 0, 1) := by decide +kernel
theorem dX10_goesBy_42 : decode cX10_goesBy 42 = .ok (.getfield 115, 3) := by decide +kernel
theorem dX10_goesBy_45 : decode cX10_goesBy 45 = .ok (.if_icmp .ge 117, 3) := by decide +kernel
theorem dX10_goesBy_48 : decode cX10_goesBy 48 = .ok (.iload_n 3, 1) := by decide +kernel
theorem dX10_goesBy_49 : decode cX10_goesBy 49 = .ok (.iload 7, 2) := by decide +kernel
theorem dX10_goesBy_51 : decode cX10_goesBy 51 = .ok (.ishr, 1) := by decide +kernel
theorem dX10_goesBy_52 : decode cX10_goesBy 52 = .ok (.iconst 1, 1) := by decide +kernel
theorem dX10_goesBy_53 : decode cX10_goesBy 53 = .ok (.iand, 1) := by decide +kernel
theorem dX10_goesBy_54 : decode cX10_goesBy 54 = .ok (.iconst 1, 1) := by decide +kernel
theorem dX10_goesBy_55 : decode cX10_goesBy 55 = .ok (.if_icmp .ne 101, 3) := by decide +kernel
theorem dX10_goesBy_58 : decode cX10_goesBy 58 = .ok (.aload_n 0, 1) := by decide +kernel
theorem dX10_goesBy_59 : decode cX10_goesBy 59 = .ok (.getfield 22, 3) := by decide +kernel
theorem dX10_goesBy_62 : decode cX10_goesBy 62 = .ok (.iload 7, 2) := by decide +kernel
theorem dX10_goesBy_64 : decode cX10_goesBy 64 = .ok (.iaload, 1) := by decide +kernel
theorem dX10_goesBy_65 : decode cX10_goesBy 65 = .ok (.iconst 2, 1) := by decide +kernel
theorem dX10_goesBy_66 : decode cX10_goesBy 66 = .ok (.if_icmp .ne 16, 3) := by decide +kernel
theorem dX10_goesBy_69 : decode cX10_goesBy 69 = .ok (.aload_n 0, 1) := by decide +kernel
theorem dX10_goesBy_70 : decode cX10_goesBy 70 = .ok (.getfield 25, 3) := by decide +kernel
theorem dX10_goesBy_73 : decode cX10_goesBy 73 = .ok (.iload 7, 2) := by decide +kernel
theorem dX10_goesBy_75 : decode cX10_goesBy 75 = .ok (.iaload, 1) := by decide +kernel
theorem dX10_goesBy_76 : decode cX10_goesBy 76 = .ok (.ifCond .ne 6, 3) := by decide +kernel
theorem dX10_goesBy_79 : decode cX10_goesBy 79 = .ok (.bipush (-2), 2) := by decide +kernel
theorem dX10_goesBy_81 : decode cX10_goesBy 81 = .ok (.ireturn, 1) := by decide +kernel
theorem dX10_goesBy_82 : decode cX10_goesBy 82 = .ok (.aload_n 0, 1) := by decide +kernel
theorem dX10_goesBy_83 : decode cX10_goesBy 83 = .ok (.getfield 22, 3) := by decide +kernel
theorem dX10_goesBy_86 : decode cX10_goesBy 86 = .ok (.iload 7, 2) := by decide +kernel
theorem dX10_goesBy_88 : decode cX10_goesBy 88 = .ok (.iaload, 1) := by decide +kernel
theorem dX10_goesBy_89 : decode cX10_goesBy 89 = .ok (.ifCond .ne 31, 3) := by decide +kernel
theorem dX10_goesBy_92 : decode cX10_goesBy 92 = .ok (.iload 4, 2) := by decide +kernel
theorem dX10_goesBy_94 : decode cX10_goesBy 94 = .ok (.iconst (-1), 1) := by decide +kernel
theorem dX10_goesBy_95 : decode cX10_goesBy 95 = .ok (.if_icmp .eq 20, 3) := by decide +kernel
theorem dX10_goesBy_98 : decode cX10_goesBy 98 = .ok (.aload_n 0, 1) := by decide +kernel
theorem dX10_goesBy_99 : decode cX10_goesBy 99 = .ok (.getfield 31, 3) := by decide +kernel
theorem dX10_goesBy_102 : decode cX10_goesBy 102 = .ok (.iload 7, 2) := by decide +kernel
theorem dX10_goesBy_104 : decode cX10_goesBy 104 = .ok (.iaload, 1) := by decide +kernel
theorem dX10_goesBy_105 : decode cX10_goesBy 105 = .ok (.aload_n 0, 1) := by decide +kernel
theorem dX10_goesBy_106 : decode cX10_goesBy 106 = .ok (.getfield 31, 3) := by decide +kernel
theorem dX10_goesBy_109 : decode cX10_goesBy 109 = .ok (.iload 4, 2) := by decide +kernel
theorem dX10_goesBy_111 : decode cX10_goesBy 111 = .ok (.iaload, 1) := by decide +kernel
theorem dX10_goesBy_112 : decode cX10_goesBy 112 = .ok (.if_icmp .lt 8, 3) := by decide +kernel
theorem dX10_goesBy_115 : decode cX10_goesBy 115 = .ok (.iload 7, 2) := by decide +kernel
theorem dX10_goesBy_117 : decode cX10_goesBy 117 = .ok (.goto 5, 3) := by decide +kernel
theorem dX10_goesBy_120 : decode cX10_goesBy 120 = .ok (.iload 4, 2) := by decide +kernel
theorem dX10_goesBy_122 : decode cX10_goesBy 122 = .ok (.istore 4, 2) := by decide +kernel
theorem dX10_goesBy_124 : decode cX10_goesBy 124 = .ok (.aload_n 0, 1) := by decide +kernel
theorem dX10_goesBy_125 : decode cX10_goesBy 125 = .ok (.getfield 22, 3) := by decide +kernel
theorem dX10_goesBy_128 : decode cX10_goesBy 128 = .ok (.iload 7, 2) := by decide +kernel
theorem dX10_goesBy_130 : decode cX10_goesBy 130 = .ok (.iaload, 1) := by decide +kernel
theorem dX10_goesBy_131 : decode cX10_goesBy 131 = .ok (.iconst 1, 1) := by decide +kernel
theorem dX10_goesBy_132 : decode cX10_goesBy 132 = .ok (.if_icmp .ne 20, 3) := by decide +kernel
theorem dX10_goesBy_135 : decode cX10_goesBy 135 = .ok (.iload 6, 2) := by decide +kernel
theorem dX10_goesBy_137 : decode cX10_goesBy 137 = .ok (.iconst 1, 1) := by decide +kernel
theorem dX10_goesBy_138 : decode cX10_goesBy 138 = .ok (.aload_n 0, 1) := by decide +kernel
theorem dX10_goesBy_139 : decode cX10_goesBy 139 = .ok (.getfield 25, 3) := by decide +kernel
theorem dX10_goesBy_142 : decode cX10_goesBy 142 = .ok (.iload 7, 2) := by decide +kernel
theorem dX10_goesBy_144 : decode cX10_goesBy 144 = .ok (.iaload, 1) := by decide +kernel
theorem dX10_goesBy_145 : decode cX10_goesBy 145 = .ok (.ishl, 1) := by decide +kernel
theorem dX10_goesBy_146 : decode cX10_goesBy 146 = .ok (.iconst (-1), 1) := by decide +kernel
theorem dX10_goesBy_147 : decode cX10_goesBy 147 = .ok (.ixor, 1) := by decide +kernel
theorem dX10_goesBy_148 : decode cX10_goesBy 148 = .ok (.iand, 1) := by decide +kernel
theorem dX10_goesBy_149 : decode cX10_goesBy 149 = .ok (.goto 5, 3) := by decide +kernel
theorem dX10_goesBy_152 : decode cX10_goesBy 152 = .ok (.iload 6, 2) := by decide +kernel
theorem dX10_goesBy_154 : decode cX10_goesBy 154 = .ok (.istore 6, 2) := by decide +kernel
theorem dX10_goesBy_156 : decode cX10_goesBy 156 = .ok (.iinc 7 1, 3) := by decide +kernel
theorem dX10_goesBy_159 : decode cX10_goesBy 159 = .ok (.goto (-120), 3) := by decide +kernel
theorem dX10_goesBy_162 : decode cX10_goesBy 162 = .ok (.iload 4, 2) := by decide +kernel
theorem dX10_goesBy_164 : decode cX10_goesBy 164 = .ok (.iconst (-1), 1) := by decide +kernel
theorem dX10_goesBy_165 : decode cX10_goesBy 165 = .ok (.if_icmp .eq 11, 3) := by decide +kernel
theorem dX10_goesBy_168 : decode cX10_goesBy 168 = .ok (.aload_n 0, 1) := by decide +kernel
theorem dX10_goesBy_169 : decode cX10_goesBy 169 = .ok (.getfield 25, 3) := by decide +kernel
theorem dX10_goesBy_172 : decode cX10_goesBy 172 = .ok (.iload 4, 2) := by decide +kernel
theorem dX10_goesBy_174 : decode cX10_goesBy 174 = .ok (.iaload, 1) := by decide +kernel
theorem dX10_goesBy_175 : decode cX10_goesBy 175 = .ok (.ireturn, 1) := by decide +kernel
theorem dX10_goesBy_176 : decode cX10_goesBy 176 = .ok (.iload 5, 2) := by decide +kernel
theorem dX10_goesBy_178 : decode cX10_goesBy 178 = .ok (.ifCond .ne 6, 3) := by decide +kernel
theorem dX10_goesBy_181 : decode cX10_goesBy 181 = .ok (.bipush (-3), 2) := by decide +kernel
theorem dX10_goesBy_183 : decode cX10_goesBy 183 = .ok (.ireturn, 1) := by decide +kernel
theorem dX10_goesBy_184 : decode cX10_goesBy 184 = .ok (.iconst (-1), 1) := by decide +kernel
theorem dX10_goesBy_185 : decode cX10_goesBy 185 = .ok (.istore 7, 2) := by decide +kernel
theorem dX10_goesBy_187 : decode cX10_goesBy 187 = .ok (.iconst 0, 1) := by decide +kernel
theorem dX10_goesBy_188 : decode cX10_goesBy 188 = .ok (.istore 8, 2) := by decide +kernel
theorem dX10_goesBy_190 : decode cX10_goesBy 190 = .ok (.iload 8, 2) := by decide +kernel
theorem dX10_goesBy_192 : decode cX10_goesBy 192 = .ok (.aload_n 0, 1) := by decide +kernel
theorem dX10_goesBy_193 : decode cX10_goesBy 193 = .ok (.getfield 94, 3) := by decide +kernel
theorem dX10_goesBy_196 : decode cX10_goesBy 196 = .ok (.if_icmp .ge 27, 3) := by decide +kernel
theorem dX10_goesBy_199 : decode cX10_goesBy 199 = .ok (.iload 6, 2) := by decide +kernel
theorem dX10_goesBy_201 : decode cX10_goesBy 201 = .ok (.iconst 1, 1) := by decide +kernel
theorem dX10_goesBy_202 : decode cX10_goesBy 202 = .ok (.iload 8, 2) := by decide +kernel
theorem dX10_goesBy_204 : decode cX10_goesBy 204 = .ok (.ishl, 1) := by decide +kernel
theorem dX10_goesBy_205 : decode cX10_goesBy 205 = .ok (.if_icmp .ne 8, 3) := by decide +kernel
theorem dX10_goesBy_208 : decode cX10_goesBy 208 = .ok (.iload 8, 2) := by decide +kernel
theorem dX10_goesBy_210 : decode cX10_goesBy 210 = .ok (.goto 5, 3) := by decide +kernel
theorem dX10_goesBy_213 : decode cX10_goesBy 213 = .ok (.iload 7, 2) := by decide +kernel
theorem dX10_goesBy_215 : decode cX10_goesBy 215 = .ok (.istore 7, 2) := by decide +kernel
theorem dX10_goesBy_217 : decode cX10_goesBy 217 = .ok (.iinc 8 1, 3) := by decide +kernel
theorem dX10_goesBy_220 : decode cX10_goesBy 220 = .ok (.goto (-30), 3) := by decide +kernel
theorem dX10_goesBy_223 : decode cX10_goesBy 223 = .ok (.iload 7, 2) := by decide +kernel
theorem dX10_goesBy_225 : decode cX10_goesBy 225 = .ok (.ireturn, 1) := by decide +kernel
theorem dX10_goWalk_0 : decode cX10_goWalk 0 = .ok (.iconst 0, 1) := by decide +kernel
theorem dX10_goWalk_1 : decode cX10_goWalk 1 = .ok (.istore_n 2, 1) := by decide +kernel
theorem dX10_goWalk_2 : decode cX10_goWalk 2 = .ok (.iload_n 2, 1) := by decide +kernel
theorem dX10_goWalk_3 : decode cX10_goWalk 3 = .ok (.sipush 160, 3) := by decide +kernel
theorem dX10_goWalk_6 : decode cX10_goWalk 6 = .ok (.if_icmp .ge 16, 3) := by decide +kernel
theorem dX10_goWalk_9 : decode cX10_goWalk 9 = .ok (.aload_n 0, 1) := by decide +kernel
theorem dX10_goWalk_10 : decode cX10_goWalk 10 = .ok (.getfield 51, 3) := by decide +kernel
theorem dX10_goWalk_13 : decode cX10_goWalk 13 = .ok (.iload_n 2, 1) := by decide +kernel
theorem dX10_goWalk_14 : decode cX10_goWalk 14 = .ok (.iconst 0, 1) := by decide +kernel
theorem dX10_goWalk_15 : decode cX10_goWalk 15 = .ok (.bastore, 1) := by decide +kernel
theorem dX10_goWalk_16 : decode cX10_goWalk 16 = .ok (.iinc 2 1, 3) := by decide +kernel
theorem dX10_goWalk_19 : decode cX10_goWalk 19 = .ok (.goto (-17), 3) := by decide +kernel
theorem dX10_goWalk_22 : decode cX10_goWalk 22 = .ok (.iload_n 1, 1) := by decide +kernel
theorem dX10_goWalk_23 : decode cX10_goWalk 23 = .ok (.istore_n 2, 1) := by decide +kernel
theorem dX10_goWalk_24 : decode cX10_goWalk 24 = .ok (.iconst (-1), 1) := by decide +kernel
theorem dX10_goWalk_25 : decode cX10_goWalk 25 = .ok (.istore_n 3, 1) := by decide +kernel
theorem dX10_goWalk_26 : decode cX10_goWalk 26 = .ok (.aload_n 0, 1) := by decide +kernel
theorem dX10_goWalk_27 : decode cX10_goWalk 27 = .ok (.iconst 0, 1) := by decide +kernel
theorem dX10_goWalk_28 : decode cX10_goWalk 28 = .ok (.putfield 131, 3) := by decide +kernel
theorem dX10_goWalk_31 : decode cX10_goWalk 31 = .ok (.aload_n 0, 1) := by decide +kernel
theorem dX10_goWalk_32 : decode cX10_goWalk 32 = .ok (.iconst 0, 1) := by decide +kernel
theorem dX10_goWalk_33 : decode cX10_goWalk 33 = .ok (.putfield 134, 3) := by decide +kernel
theorem dX10_goWalk_36 : decode cX10_goWalk 36 = .ok (.aload_n 0, 1) := by decide +kernel
theorem dX10_goWalk_37 : decode cX10_goWalk 37 = .ok (.getfield 48, 3) := by decide +kernel
theorem dX10_goWalk_40 : decode cX10_goWalk 40 = .ok (.iconst 0, 1) := by decide +kernel
theorem dX10_goWalk_41 : decode cX10_goWalk 41 = .ok (.iload_n 1, 1) := by decide +kernel
theorem dX10_goWalk_42 : decode cX10_goWalk 42 = .ok (.iastore, 1) := by decide +kernel
theorem dX10_goWalk_43 : decode cX10_goWalk 43 = .ok (.aload_n 0, 1) := by decide +kernel
theorem dX10_goWalk_44 : decode cX10_goWalk 44 = .ok (.iconst (-1), 1) := by decide +kernel
theorem dX10_goWalk_45 : decode cX10_goWalk 45 = .ok (.putfield 137, 3) := by decide +kernel
theorem dX10_goWalk_48 : decode cX10_goWalk 48 = .ok (.aload_n 0, 1) := by decide +kernel
theorem dX10_goWalk_49 : decode cX10_goWalk 49 = .ok (.getfield 137, 3) := by decide +kernel
theorem dX10_goWalk_52 : decode cX10_goWalk 52 = .ok (.iconst (-1), 1) := by decide +kernel
theorem dX10_goWalk_53 : decode cX10_goWalk 53 = .ok (.if_icmp .ne 172, 3) := by decide +kernel
theorem dX10_goWalk_56 : decode cX10_goWalk 56 = .ok (.aload_n 0, 1) := by decide +kernel
theorem dX10_goWalk_57 : decode cX10_goWalk 57 = .ok (.iload_n 2, 1) := by decide +kernel
theorem dX10_goWalk_58 : decode cX10_goWalk 58 = .ok (.iload_n 3, 1) := by decide +kernel
theorem dX10_goWalk_59 : decode cX10_goWalk 59 = .ok (.invokevirtual 140, 3) := by decide +kernel
theorem dX10_goWalk_62 : decode cX10_goWalk 62 = .ok (.istore 4, 2) := by decide +kernel
theorem dX10_goWalk_64 : decode cX10_goWalk 64 = .ok (.iload_n 3, 1) := by decide +kernel
theorem dX10_goWalk_65 : decode cX10_goWalk 65 = .ok (.iconst (-1), 1) := by decide +kernel
theorem dX10_goWalk_66 : decode cX10_goWalk 66 = .ok (.if_icmp .eq 21, 3) := by decide +kernel
theorem dX10_goWalk_69 : decode cX10_goWalk 69 = .ok (.aload_n 0, 1) := by decide +kernel
theorem dX10_goWalk_70 : decode cX10_goWalk 70 = .ok (.getfield 51, 3) := by decide +kernel
theorem dX10_goWalk_73 : decode cX10_goWalk 73 = .ok (.bipush 16, 2) := by decide +kernel
theorem dX10_goWalk_75 : decode cX10_goWalk 75 = .ok (.iload_n 2, 1) := by decide +kernel
theorem dX10_goWalk_76 : decode cX10_goWalk 76 = .ok (.imul, 1) := by decide +kernel
theorem dX10_goWalk_77 : decode cX10_goWalk 77 = .ok (.iload_n 3, 1) := by decide +kernel
theorem dX10_goWalk_78 : decode cX10_goWalk 78 = .ok (.iadd, 1) := by decide +kernel
theorem dX10_goWalk_79 : decode cX10_goWalk 79 = .ok (.baload, 1) := by decide +kernel
theorem dX10_goWalk_80 : decode cX10_goWalk 80 = .ok (.ifCond .eq 7, 3) := by decide +kernel
theorem dX10_goWalk_83 : decode cX10_goWalk 83 = .ok (.iconst 1, 1) := by decide +kernel
theorem dX10_goWalk_84 : decode cX10_goWalk 84 = .ok (.goto 4, 3) := by decide +kernel
theorem dX10_goWalk_87 : decode cX10_goWalk 87 = .ok (.iconst 0, 1) := by decide +kernel
theorem dX10_goWalk_88 : decode cX10_goWalk 88 = .ok (.istore 5, 2) := by decide +kernel
theorem dX10_goWalk_90 : decode cX10_goWalk 90 = .ok (.iload_n 3, 1) := by decide +kernel
theorem dX10_goWalk_91 : decode cX10_goWalk 91 = .ok (.iconst (-1), 1) := by decide +kernel
theorem dX10_goWalk_92 : decode cX10_goWalk 92 = .ok (.if_icmp .eq 15, 3) := by decide +kernel
theorem dX10_goWalk_95 : decode cX10_goWalk 95 = .ok (.aload_n 0, 1) := by decide +kernel
theorem dX10_goWalk_96 : decode cX10_goWalk 96 = .ok (.getfield 51, 3) := by decide +kernel
theorem dX10_goWalk_99 : decode cX10_goWalk 99 = .ok (.bipush 16, 2) := by decide +kernel
theorem dX10_goWalk_101 : decode cX10_goWalk 101 = .ok (.iload_n 2, 1) := by decide +kernel
theorem dX10_goWalk_102 : decode cX10_goWalk 102 = .ok (.imul, 1) := by decide +kernel
theorem dX10_goWalk_103 : decode cX10_goWalk 103 = .ok (.iload_n 3, 1) := by decide +kernel
theorem dX10_goWalk_104 : decode cX10_goWalk 104 = .ok (.iadd, 1) := by decide +kernel
theorem dX10_goWalk_105 : decode cX10_goWalk 105 = .ok (.iconst 1, 1) := by decide +kernel
theorem dX10_goWalk_106 : decode cX10_goWalk 106 = .ok (.bastore, 1) := by decide +kernel
theorem dX10_goWalk_107 : decode cX10_goWalk 107 = .ok (.iload 4, 2) := by decide +kernel
theorem dX10_goWalk_109 : decode cX10_goWalk 109 = .ok (.bipush (-2), 2) := by decide +kernel
theorem dX10_goWalk_111 : decode cX10_goWalk 111 = .ok (.if_icmp .ne 11, 3) := by decide +kernel
theorem dX10_goWalk_114 : decode cX10_goWalk 114 = .ok (.aload_n 0, 1) := by decide +kernel
theorem dX10_goWalk_115 : decode cX10_goWalk 115 = .ok (.iconst 2, 1) := by decide +kernel
theorem dX10_goWalk_116 : decode cX10_goWalk 116 = .ok (.putfield 137, 3) := by decide +kernel
theorem dX10_goWalk_119 : decode cX10_goWalk 119 = .ok (.goto 103, 3) := by decide +kernel
theorem dX10_goWalk_122 : decode cX10_goWalk 122 = .ok (.iload 5, 2) := by decide +kernel
theorem dX10_goWalk_124 : decode cX10_goWalk 124 = .ok (.ifCond .eq 11, 3) := by decide +kernel
theorem dX10_goWalk_127 : decode cX10_goWalk 127 = .ok (.aload_n 0, 1) := by decide +kernel
theorem dX10_goWalk_128 : decode cX10_goWalk 128 = .ok (.iconst 3, 1) := by decide +kernel
theorem dX10_goWalk_129 : decode cX10_goWalk 129 = .ok (.putfield 137, 3) := by decide +kernel
theorem dX10_goWalk_132 : decode cX10_goWalk 132 = .ok (.goto 90, 3) := by decide +kernel
theorem dX10_goWalk_135 : decode cX10_goWalk 135 = .ok (.iload 4, 2) := by decide +kernel
theorem dX10_goWalk_137 : decode cX10_goWalk 137 = .ok (.ifCond .ge 22, 3) := by decide +kernel
theorem dX10_goWalk_140 : decode cX10_goWalk 140 = .ok (.aload_n 0, 1) := by decide +kernel
theorem dX10_goWalk_141 : decode cX10_goWalk 141 = .ok (.iload 4, 2) := by decide +kernel
theorem dX10_goWalk_143 : decode cX10_goWalk 143 = .ok (.bipush (-3), 2) := by decide +kernel
theorem dX10_goWalk_145 : decode cX10_goWalk 145 = .ok (.if_icmp .ne 7, 3) := by decide +kernel
theorem dX10_goWalk_148 : decode cX10_goWalk 148 = .ok (.iconst 1, 1) := by decide +kernel
theorem dX10_goWalk_149 : decode cX10_goWalk 149 = .ok (.goto 4, 3) := by decide +kernel
theorem dX10_goWalk_152 : decode cX10_goWalk 152 = .ok (.iconst 0, 1) := by decide +kernel
theorem dX10_goWalk_153 : decode cX10_goWalk 153 = .ok (.putfield 137, 3) := by decide +kernel
theorem dX10_goWalk_156 : decode cX10_goWalk 156 = .ok (.goto 66, 3) := by decide +kernel
theorem dX10_goWalk_159 : decode cX10_goWalk 159 = .ok (.aload_n 0, 1) := by decide +kernel
theorem dX10_goWalk_160 : decode cX10_goWalk 160 = .ok (.getfield 131, 3) := by decide +kernel
theorem dX10_goWalk_163 : decode cX10_goWalk 163 = .ok (.bipush 30, 2) := by decide +kernel
theorem dX10_goWalk_165 : decode cX10_goWalk 165 = .ok (.if_icmp .ne 11, 3) := by decide +kernel
theorem dX10_goWalk_168 : decode cX10_goWalk 168 = .ok (.aload_n 0, 1) := by decide +kernel
theorem dX10_goWalk_169 : decode cX10_goWalk 169 = .ok (.iconst 4, 1) := by decide +kernel
theorem dX10_goWalk_170 : decode cX10_goWalk 170 = .ok (.putfield 137, 3) := by decide +kernel
theorem dX10_goWalk_173 : decode cX10_goWalk 173 = .ok (.goto 49, 3) := by decide +kernel
theorem dX10_goWalk_176 : decode cX10_goWalk 176 = .ok (.aload_n 0, 1) := by decide +kernel
theorem dX10_goWalk_177 : decode cX10_goWalk 177 = .ok (.iload 4, 2) := by decide +kernel
theorem dX10_goWalk_179 : decode cX10_goWalk 179 = .ok (.iload_n 2, 1) := by decide +kernel
theorem dX10_goWalk_180 : decode cX10_goWalk 180 = .ok (.invokevirtual 143, 3) := by decide +kernel
theorem dX10_goWalk_183 : decode cX10_goWalk 183 = .ok (.istore_n 2, 1) := by decide +kernel
theorem dX10_goWalk_184 : decode cX10_goWalk 184 = .ok (.iload 4, 2) := by decide +kernel
theorem dX10_goWalk_186 : decode cX10_goWalk 186 = .ok (.istore_n 3, 1) := by decide +kernel
theorem dX10_goWalk_187 : decode cX10_goWalk 187 = .ok (.aload_n 0, 1) := by decide +kernel
theorem dX10_goWalk_188 : decode cX10_goWalk 188 = .ok (.dup, 1) := by decide +kernel
theorem dX10_goWalk_189 : decode cX10_goWalk 189 = .ok (.getfield 131, 3) := by decide +kernel
theorem dX10_goWalk_192 : decode cX10_goWalk 192 = .ok (.iconst 1, 1) := by decide +kernel
theorem dX10_goWalk_193 : decode cX10_goWalk 193 = .ok (.iadd, 1) := by decide +kernel
theorem dX10_goWalk_194 : decode cX10_goWalk 194 = .ok (.putfield 131, 3) := by decide +kernel
theorem dX10_goWalk_197 : decode cX10_goWalk 197 = .ok (.aload_n 0, 1) := by decide +kernel
theorem dX10_goWalk_198 : decode cX10_goWalk 198 = .ok (.dup, 1) := by decide +kernel
theorem dX10_goWalk_199 : decode cX10_goWalk 199 = .ok (.getfield 134, 3) := by decide +kernel
theorem dX10_goWalk_202 : decode cX10_goWalk 202 = .ok (.aload_n 0, 1) := by decide +kernel
theorem dX10_goWalk_203 : decode cX10_goWalk 203 = .ok (.getfield 16, 3) := by decide +kernel
theorem dX10_goWalk_206 : decode cX10_goWalk 206 = .ok (.iload_n 3, 1) := by decide +kernel
theorem dX10_goWalk_207 : decode cX10_goWalk 207 = .ok (.iaload, 1) := by decide +kernel
theorem dX10_goWalk_208 : decode cX10_goWalk 208 = .ok (.iadd, 1) := by decide +kernel
theorem dX10_goWalk_209 : decode cX10_goWalk 209 = .ok (.putfield 134, 3) := by decide +kernel
theorem dX10_goWalk_212 : decode cX10_goWalk 212 = .ok (.aload_n 0, 1) := by decide +kernel
theorem dX10_goWalk_213 : decode cX10_goWalk 213 = .ok (.getfield 48, 3) := by decide +kernel
theorem dX10_goWalk_216 : decode cX10_goWalk 216 = .ok (.aload_n 0, 1) := by decide +kernel
theorem dX10_goWalk_217 : decode cX10_goWalk 217 = .ok (.getfield 131, 3) := by decide +kernel
theorem dX10_goWalk_220 : decode cX10_goWalk 220 = .ok (.iload_n 2, 1) := by decide +kernel
theorem dX10_goWalk_221 : decode cX10_goWalk 221 = .ok (.iastore, 1) := by decide +kernel
theorem dX10_goWalk_222 : decode cX10_goWalk 222 = .ok (.goto (-174), 3) := by decide +kernel
theorem dX10_goWalk_225 : decode cX10_goWalk 225 = .ok (.return_, 1) := by decide +kernel
theorem dX10_walk_0 : decode cX10_walk 0 = .ok (.iload_n 1, 1) := by decide +kernel
theorem dX10_walk_1 : decode cX10_walk 1 = .ok (.invokestatic 101, 3) := by decide +kernel
theorem dX10_walk_4 : decode cX10_walk 4 = .ok (.ifCond .ne 6, 3) := by decide +kernel
theorem dX10_walk_7 : decode cX10_walk 7 = .ok (.bipush (-2), 2) := by decide +kernel
theorem dX10_walk_9 : decode cX10_walk 9 = .ok (.ireturn, 1) := by decide +kernel
theorem dX10_walk_10 : decode cX10_walk 10 = .ok (.iload_n 2, 1) := by decide +kernel
theorem dX10_walk_11 : decode cX10_walk 11 = .ok (.iconst 0, 1) := by decide +kernel
theorem dX10_walk_12 : decode cX10_walk 12 = .ok (.iconst 3, 1) := by decide +kernel
theorem dX10_walk_13 : decode cX10_walk 13 = .ok (.invokestatic 90, 3) := by decide +kernel
theorem dX10_walk_16 : decode cX10_walk 16 = .ok (.ifCond .ne 6, 3) := by decide +kernel
theorem dX10_walk_19 : decode cX10_walk 19 = .ok (.bipush (-3), 2) := by decide +kernel
theorem dX10_walk_21 : decode cX10_walk 21 = .ok (.ireturn, 1) := by decide +kernel
theorem dX10_walk_22 : decode cX10_walk 22 = .ok (.aload_n 0, 1) := by decide +kernel
theorem dX10_walk_23 : decode cX10_walk 23 = .ok (.iload_n 1, 1) := by decide +kernel
theorem dX10_walk_24 : decode cX10_walk 24 = .ok (.invokevirtual 146, 3) := by decide +kernel
theorem dX10_walk_27 : decode cX10_walk 27 = .ok (.iload_n 2, 1) := by decide +kernel
theorem dX10_walk_28 : decode cX10_walk 28 = .ok (.ifCond .ne 10, 3) := by decide +kernel
theorem dX10_walk_31 : decode cX10_walk 31 = .ok (.aload_n 0, 1) := by decide +kernel
theorem dX10_walk_32 : decode cX10_walk 32 = .ok (.getfield 137, 3) := by decide +kernel
theorem dX10_walk_35 : decode cX10_walk 35 = .ok (.goto 36, 3) := by decide +kernel
theorem dX10_walk_38 : decode cX10_walk 38 = .ok (.iload_n 2, 1) := by decide +kernel
theorem dX10_walk_39 : decode cX10_walk 39 = .ok (.iconst 1, 1) := by decide +kernel
theorem dX10_walk_40 : decode cX10_walk 40 = .ok (.if_icmp .ne 15, 3) := by decide +kernel
theorem dX10_walk_43 : decode cX10_walk 43 = .ok (.aload_n 0, 1) := by decide +kernel
theorem dX10_walk_44 : decode cX10_walk 44 = .ok (.getfield 48, 3) := by decide +kernel
theorem dX10_walk_47 : decode cX10_walk 47 = .ok (.aload_n 0, 1) := by decide +kernel
theorem dX10_walk_48 : decode cX10_walk 48 = .ok (.getfield 131, 3) := by decide +kernel
theorem dX10_walk_51 : decode cX10_walk 51 = .ok (.iaload, 1) := by decide +kernel
theorem dX10_walk_52 : decode cX10_walk 52 = .ok (.goto 19, 3) := by decide +kernel
theorem dX10_walk_55 : decode cX10_walk 55 = .ok (.iload_n 2, 1) := by decide +kernel
theorem dX10_walk_56 : decode cX10_walk 56 = .ok (.iconst 2, 1) := by decide +kernel
theorem dX10_walk_57 : decode cX10_walk 57 = .ok (.if_icmp .ne 10, 3) := by decide +kernel
theorem dX10_walk_60 : decode cX10_walk 60 = .ok (.aload_n 0, 1) := by decide +kernel
theorem dX10_walk_61 : decode cX10_walk 61 = .ok (.getfield 131, 3) := by decide +kernel
theorem dX10_walk_64 : decode cX10_walk 64 = .ok (.goto 7, 3) := by decide +kernel
theorem dX10_walk_67 : decode cX10_walk 67 = .ok (.aload_n 0, 1) := by decide +kernel
theorem dX10_walk_68 : decode cX10_walk 68 = .ok (.getfield 134, 3) := by decide +kernel
theorem dX10_walk_71 : decode cX10_walk 71 = .ok (.ireturn, 1) := by decide +kernel
theorem dX10_walked_0 : decode cX10_walked 0 = .ok (.iload_n 1, 1) := by decide +kernel
theorem dX10_walked_1 : decode cX10_walked 1 = .ok (.invokestatic 101, 3) := by decide +kernel
theorem dX10_walked_4 : decode cX10_walked 4 = .ok (.ifCond .ne 6, 3) := by decide +kernel
theorem dX10_walked_7 : decode cX10_walked 7 = .ok (.bipush (-2), 2) := by decide +kernel
theorem dX10_walked_9 : decode cX10_walked 9 = .ok (.ireturn, 1) := by decide +kernel
theorem dX10_walked_10 : decode cX10_walked 10 = .ok (.iload_n 2, 1) := by decide +kernel
theorem dX10_walked_11 : decode cX10_walked 11 = .ok (.ifCond .ge 6, 3) := by decide +kernel
theorem dX10_walked_14 : decode cX10_walked 14 = .ok (.bipush (-3), 2) := by decide +kernel
theorem dX10_walked_16 : decode cX10_walked 16 = .ok (.ireturn, 1) := by decide +kernel
theorem dX10_walked_17 : decode cX10_walked 17 = .ok (.aload_n 0, 1) := by decide +kernel
theorem dX10_walked_18 : decode cX10_walked 18 = .ok (.iload_n 1, 1) := by decide +kernel
theorem dX10_walked_19 : decode cX10_walked 19 = .ok (.invokevirtual 146, 3) := by decide +kernel
theorem dX10_walked_22 : decode cX10_walked 22 = .ok (.iload_n 2, 1) := by decide +kernel
theorem dX10_walked_23 : decode cX10_walked 23 = .ok (.aload_n 0, 1) := by decide +kernel
theorem dX10_walked_24 : decode cX10_walked 24 = .ok (.getfield 131, 3) := by decide +kernel
theorem dX10_walked_27 : decode cX10_walked 27 = .ok (.if_icmp .gt 12, 3) := by decide +kernel
theorem dX10_walked_30 : decode cX10_walked 30 = .ok (.aload_n 0, 1) := by decide +kernel
theorem dX10_walked_31 : decode cX10_walked 31 = .ok (.getfield 48, 3) := by decide +kernel
theorem dX10_walked_34 : decode cX10_walked 34 = .ok (.iload_n 2, 1) := by decide +kernel
theorem dX10_walked_35 : decode cX10_walked 35 = .ok (.iaload, 1) := by decide +kernel
theorem dX10_walked_36 : decode cX10_walked 36 = .ok (.goto 4, 3) := by decide +kernel
theorem dX10_walked_39 : decode cX10_walked 39 = .ok (.iconst (-1), 1) := by decide +kernel
theorem dX10_walked_40 : decode cX10_walked 40 = .ok (.ireturn, 1) := by decide +kernel
theorem dX10_note_0 : decode cX10_note 0 = .ok (.iload_n 1, 1) := by decide +kernel
theorem dX10_note_1 : decode cX10_note 1 = .ok (.iconst (-1), 1) := by decide +kernel
theorem dX10_note_2 : decode cX10_note 2 = .ok (.bipush 15, 2) := by decide +kernel
theorem dX10_note_4 : decode cX10_note 4 = .ok (.invokestatic 90, 3) := by decide +kernel
theorem dX10_note_7 : decode cX10_note 7 = .ok (.ifCond .ne 6, 3) := by decide +kernel
theorem dX10_note_10 : decode cX10_note 10 = .ok (.bipush (-3), 2) := by decide +kernel
theorem dX10_note_12 : decode cX10_note 12 = .ok (.ireturn, 1) := by decide +kernel
theorem dX10_note_13 : decode cX10_note 13 = .ok (.aload_n 0, 1) := by decide +kernel
theorem dX10_note_14 : decode cX10_note 14 = .ok (.getfield 150, 3) := by decide +kernel
theorem dX10_note_17 : decode cX10_note 17 = .ok (.bipush 8, 2) := by decide +kernel
theorem dX10_note_19 : decode cX10_note 19 = .ok (.if_icmp .ne 6, 3) := by decide +kernel
theorem dX10_note_22 : decode cX10_note 22 = .ok (.bipush (-5), 2) := by decide +kernel
theorem dX10_note_24 : decode cX10_note 24 = .ok (.ireturn, 1) := by decide +kernel
theorem dX10_note_25 : decode cX10_note 25 = .ok (.aload_n 0, 1) := by decide +kernel
theorem dX10_note_26 : decode cX10_note 26 = .ok (.getfield 54, 3) := by decide +kernel
theorem dX10_note_29 : decode cX10_note 29 = .ok (.aload_n 0, 1) := by decide +kernel
theorem dX10_note_30 : decode cX10_note 30 = .ok (.getfield 150, 3) := by decide +kernel
theorem dX10_note_33 : decode cX10_note 33 = .ok (.iload_n 1, 1) := by decide +kernel
theorem dX10_note_34 : decode cX10_note 34 = .ok (.iastore, 1) := by decide +kernel
theorem dX10_note_35 : decode cX10_note 35 = .ok (.aload_n 0, 1) := by decide +kernel
theorem dX10_note_36 : decode cX10_note 36 = .ok (.dup, 1) := by decide +kernel
theorem dX10_note_37 : decode cX10_note 37 = .ok (.getfield 150, 3) := by decide +kernel
theorem dX10_note_40 : decode cX10_note 40 = .ok (.iconst 1, 1) := by decide +kernel
theorem dX10_note_41 : decode cX10_note 41 = .ok (.iadd, 1) := by decide +kernel
theorem dX10_note_42 : decode cX10_note 42 = .ok (.putfield 150, 3) := by decide +kernel
theorem dX10_note_45 : decode cX10_note 45 = .ok (.aload_n 0, 1) := by decide +kernel
theorem dX10_note_46 : decode cX10_note 46 = .ok (.getfield 150, 3) := by decide +kernel
theorem dX10_note_49 : decode cX10_note 49 = .ok (.ireturn, 1) := by decide +kernel
theorem dX10_forget_0 : decode cX10_forget 0 = .ok (.aload_n 0, 1) := by decide +kernel
theorem dX10_forget_1 : decode cX10_forget 1 = .ok (.getfield 150, 3) := by decide +kernel
theorem dX10_forget_4 : decode cX10_forget 4 = .ok (.istore_n 1, 1) := by decide +kernel
theorem dX10_forget_5 : decode cX10_forget 5 = .ok (.aload_n 0, 1) := by decide +kernel
theorem dX10_forget_6 : decode cX10_forget 6 = .ok (.iconst 0, 1) := by decide +kernel
theorem dX10_forget_7 : decode cX10_forget 7 = .ok (.putfield 150, 3) := by decide +kernel
theorem dX10_forget_10 : decode cX10_forget 10 = .ok (.iload_n 1, 1) := by decide +kernel
theorem dX10_forget_11 : decode cX10_forget 11 = .ok (.ireturn, 1) := by decide +kernel
theorem dX10_isNoted_0 : decode cX10_isNoted 0 = .ok (.aload_n 0, 1) := by decide +kernel
theorem dX10_isNoted_1 : decode cX10_isNoted 1 = .ok (.iload_n 2, 1) := by decide +kernel
theorem dX10_isNoted_2 : decode cX10_isNoted 2 = .ok (.iload_n 3, 1) := by decide +kernel
theorem dX10_isNoted_3 : decode cX10_isNoted 3 = .ok (.invokevirtual 128, 3) := by decide +kernel
theorem dX10_isNoted_6 : decode cX10_isNoted 6 = .ok (.istore 4, 2) := by decide +kernel
theorem dX10_isNoted_8 : decode cX10_isNoted 8 = .ok (.iconst 0, 1) := by decide +kernel
theorem dX10_isNoted_9 : decode cX10_isNoted 9 = .ok (.istore 5, 2) := by decide +kernel
theorem dX10_isNoted_11 : decode cX10_isNoted 11 = .ok (.iconst 0, 1) := by decide +kernel
theorem dX10_isNoted_12 : decode cX10_isNoted 12 = .ok (.istore 6, 2) := by decide +kernel
theorem dX10_isNoted_14 : decode cX10_isNoted 14 = .ok (.iload 6, 2) := by decide +kernel
theorem dX10_isNoted_16 : decode cX10_isNoted 16 = .ok (.aload_n 0, 1) := by decide +kernel
theorem dX10_isNoted_17 : decode cX10_isNoted 17 = .ok (.getfield 115, 3) := by decide +kernel
theorem dX10_isNoted_20 : decode cX10_isNoted 20 = .ok (.if_icmp .ge 38, 3) := by decide +kernel
theorem dX10_isNoted_23 : decode cX10_isNoted 23 = .ok (.iload 5, 2) := by decide +kernel
theorem dX10_isNoted_25 : decode cX10_isNoted 25 = .ok (.iload 4, 2) := by decide +kernel
theorem dX10_isNoted_27 : decode cX10_isNoted 27 = .ok (.iload 6, 2) := by decide +kernel
theorem dX10_isNoted_29 : decode cX10_isNoted 29 = .ok (.ishr, 1) := by decide +kernel
theorem dX10_isNoted_30 : decode cX10_isNoted 30 = .ok (.iconst 1, 1) := by decide +kernel
theorem dX10_isNoted_31 : decode cX10_isNoted 31 = .ok (.iand, 1) := by decide +kernel
theorem dX10_isNoted_32 : decode cX10_isNoted 32 = .ok (.iconst 1, 1) := by decide +kernel
theorem dX10_isNoted_33 : decode cX10_isNoted 33 = .ok (.if_icmp .ne 15, 3) := by decide +kernel
theorem dX10_isNoted_36 : decode cX10_isNoted 36 = .ok (.iconst 1, 1) := by decide +kernel
theorem dX10_isNoted_37 : decode cX10_isNoted 37 = .ok (.aload_n 0, 1) := by decide +kernel
theorem dX10_isNoted_38 : decode cX10_isNoted 38 = .ok (.getfield 22, 3) := by decide +kernel
theorem dX10_isNoted_41 : decode cX10_isNoted 41 = .ok (.iload 6, 2) := by decide +kernel
theorem dX10_isNoted_43 : decode cX10_isNoted 43 = .ok (.iaload, 1) := by decide +kernel
theorem dX10_isNoted_44 : decode cX10_isNoted 44 = .ok (.ishl, 1) := by decide +kernel
theorem dX10_isNoted_45 : decode cX10_isNoted 45 = .ok (.goto 4, 3) := by decide +kernel
theorem dX10_isNoted_48 : decode cX10_isNoted 48 = .ok (.iconst 0, 1) := by decide +kernel
theorem dX10_isNoted_49 : decode cX10_isNoted 49 = .ok (.ior, 1) := by decide +kernel
theorem dX10_isNoted_50 : decode cX10_isNoted 50 = .ok (.istore 5, 2) := by decide +kernel
theorem dX10_isNoted_52 : decode cX10_isNoted 52 = .ok (.iinc 6 1, 3) := by decide +kernel
theorem dX10_isNoted_55 : decode cX10_isNoted 55 = .ok (.goto (-41), 3) := by decide +kernel
theorem dX10_isNoted_58 : decode cX10_isNoted 58 = .ok (.aload_n 0, 1) := by decide +kernel
theorem dX10_isNoted_59 : decode cX10_isNoted 59 = .ok (.getfield 54, 3) := by decide +kernel
theorem dX10_isNoted_62 : decode cX10_isNoted 62 = .ok (.iload_n 1, 1) := by decide +kernel
theorem dX10_isNoted_63 : decode cX10_isNoted 63 = .ok (.iaload, 1) := by decide +kernel
theorem dX10_isNoted_64 : decode cX10_isNoted 64 = .ok (.iconst (-1), 1) := by decide +kernel
theorem dX10_isNoted_65 : decode cX10_isNoted 65 = .ok (.if_icmp .eq 14, 3) := by decide +kernel
theorem dX10_isNoted_68 : decode cX10_isNoted 68 = .ok (.aload_n 0, 1) := by decide +kernel
theorem dX10_isNoted_69 : decode cX10_isNoted 69 = .ok (.getfield 54, 3) := by decide +kernel
theorem dX10_isNoted_72 : decode cX10_isNoted 72 = .ok (.iload_n 1, 1) := by decide +kernel
theorem dX10_isNoted_73 : decode cX10_isNoted 73 = .ok (.iaload, 1) := by decide +kernel
theorem dX10_isNoted_74 : decode cX10_isNoted 74 = .ok (.iload 5, 2) := by decide +kernel
theorem dX10_isNoted_76 : decode cX10_isNoted 76 = .ok (.if_icmp .ne 7, 3) := by decide +kernel
theorem dX10_isNoted_79 : decode cX10_isNoted 79 = .ok (.iconst 1, 1) := by decide +kernel
theorem dX10_isNoted_80 : decode cX10_isNoted 80 = .ok (.goto 4, 3) := by decide +kernel
theorem dX10_isNoted_83 : decode cX10_isNoted 83 = .ok (.iconst 0, 1) := by decide +kernel
theorem dX10_isNoted_84 : decode cX10_isNoted 84 = .ok (.ireturn, 1) := by decide +kernel
theorem dX10_mayGo_0 : decode cX10_mayGo 0 = .ok (.aload_n 0, 1) := by decide +kernel
theorem dX10_mayGo_1 : decode cX10_mayGo 1 = .ok (.iload_n 1, 1) := by decide +kernel
theorem dX10_mayGo_2 : decode cX10_mayGo 2 = .ok (.invokevirtual 118, 3) := by decide +kernel
theorem dX10_mayGo_5 : decode cX10_mayGo 5 = .ok (.istore 4, 2) := by decide +kernel
theorem dX10_mayGo_7 : decode cX10_mayGo 7 = .ok (.aload_n 0, 1) := by decide +kernel
theorem dX10_mayGo_8 : decode cX10_mayGo 8 = .ok (.iload_n 3, 1) := by decide +kernel
theorem dX10_mayGo_9 : decode cX10_mayGo 9 = .ok (.iload_n 1, 1) := by decide +kernel
theorem dX10_mayGo_10 : decode cX10_mayGo 10 = .ok (.invokevirtual 97, 3) := by decide +kernel
theorem dX10_mayGo_13 : decode cX10_mayGo 13 = .ok (.ifCond .eq 20, 3) := by decide +kernel
theorem dX10_mayGo_16 : decode cX10_mayGo 16 = .ok (.iload_n 3, 1) := by decide +kernel
theorem dX10_mayGo_17 : decode cX10_mayGo 17 = .ok (.iload_n 2, 1) := by decide +kernel
theorem dX10_mayGo_18 : decode cX10_mayGo 18 = .ok (.if_icmp .ne 11, 3) := by decide +kernel
theorem dX10_mayGo_21 : decode cX10_mayGo 21 = .ok (.iload 4, 2) := by decide +kernel
theorem dX10_mayGo_23 : decode cX10_mayGo 23 = .ok (.iconst 1, 1) := by decide +kernel
theorem dX10_mayGo_24 : decode cX10_mayGo 24 = .ok (.iload_n 3, 1) := by decide +kernel
theorem dX10_mayGo_25 : decode cX10_mayGo 25 = .ok (.ishl, 1) := by decide +kernel
theorem dX10_mayGo_26 : decode cX10_mayGo 26 = .ok (.if_icmp .ne 7, 3) := by decide +kernel
theorem dX10_mayGo_29 : decode cX10_mayGo 29 = .ok (.iconst 1, 1) := by decide +kernel
theorem dX10_mayGo_30 : decode cX10_mayGo 30 = .ok (.goto 4, 3) := by decide +kernel
theorem dX10_mayGo_33 : decode cX10_mayGo 33 = .ok (.iconst 0, 1) := by decide +kernel
theorem dX10_mayGo_34 : decode cX10_mayGo 34 = .ok (.ireturn, 1) := by decide +kernel
theorem dX10_findWays_0 : decode cX10_findWays 0 = .ok (.aload_n 0, 1) := by decide +kernel
theorem dX10_findWays_1 : decode cX10_findWays 1 = .ok (.getfield 150, 3) := by decide +kernel
theorem dX10_findWays_4 : decode cX10_findWays 4 = .ok (.iconst 1, 1) := by decide +kernel
theorem dX10_findWays_5 : decode cX10_findWays 5 = .ok (.isub, 1) := by decide +kernel
theorem dX10_findWays_6 : decode cX10_findWays 6 = .ok (.istore_n 1, 1) := by decide +kernel
theorem dX10_findWays_7 : decode cX10_findWays 7 = .ok (.iload_n 1, 1) := by decide +kernel
theorem dX10_findWays_8 : decode cX10_findWays 8 = .ok (.ifCond .lt 184, 3) := by decide +kernel
theorem dX10_findWays_11 : decode cX10_findWays 11 = .ok (.iconst 0, 1) := by decide +kernel
theorem dX10_findWays_12 : decode cX10_findWays 12 = .ok (.istore_n 2, 1) := by decide +kernel
theorem dX10_findWays_13 : decode cX10_findWays 13 = .ok (.iload_n 2, 1) := by decide +kernel
theorem dX10_findWays_14 : decode cX10_findWays 14 = .ok (.sipush 170, 3) := by decide +kernel
theorem dX10_findWays_17 : decode cX10_findWays 17 = .ok (.if_icmp .ge 169, 3) := by decide +kernel
theorem dX10_findWays_20 : decode cX10_findWays 20 = .ok (.iload_n 2, 1) := by decide +kernel
theorem dX10_findWays_21 : decode cX10_findWays 21 = .ok (.bipush 17, 2) := by decide +kernel
theorem dX10_findWays_23 : decode cX10_findWays 23 = .ok (.idiv, 1) := by decide +kernel
theorem dX10_findWays_24 : decode cX10_findWays 24 = .ok (.istore_n 3, 1) := by decide +kernel
theorem dX10_findWays_25 : decode cX10_findWays 25 = .ok (.iload_n 2, 1) := by decide +kernel
theorem dX10_findWays_26 : decode cX10_findWays 26 = .ok (.bipush 17, 2) := by decide +kernel
theorem dX10_findWays_28 : decode cX10_findWays 28 = .ok (.irem, 1) := by decide +kernel
theorem dX10_findWays_29 : decode cX10_findWays 29 = .ok (.bipush 16, 2) := by decide +kernel
theorem dX10_findWays_31 : decode cX10_findWays 31 = .ok (.if_icmp .ne 7, 3) := by decide +kernel
theorem dX10_findWays_34 : decode cX10_findWays 34 = .ok (.iconst (-1), 1) := by decide +kernel
theorem dX10_findWays_35 : decode cX10_findWays 35 = .ok (.goto 7, 3) := by decide +kernel
theorem dX10_findWays_38 : decode cX10_findWays 38 = .ok (.iload_n 2, 1) := by decide +kernel
theorem dX10_findWays_39 : decode cX10_findWays 39 = .ok (.bipush 17, 2) := by decide +kernel
theorem dX10_findWays_41 : decode cX10_findWays 41 = .ok (.irem, 1) := by decide +kernel
theorem dX10_findWays_42 : decode cX10_findWays 42 = .ok (.istore 4, 2) := by decide +kernel
theorem dX10_findWays_44 : decode cX10_findWays 44 = .ok (.iconst 0, 1) := by decide +kernel
theorem dX10_findWays_45 : decode cX10_findWays 45 = .ok (.istore 5, 2) := by decide +kernel
theorem dX10_findWays_47 : decode cX10_findWays 47 = .ok (.iload 4, 2) := by decide +kernel
theorem dX10_findWays_49 : decode cX10_findWays 49 = .ok (.iconst (-1), 1) := by decide +kernel
theorem dX10_findWays_50 : decode cX10_findWays 50 = .ok (.if_icmp .eq 13, 3) := by decide +kernel
theorem dX10_findWays_53 : decode cX10_findWays 53 = .ok (.aload_n 0, 1) := by decide +kernel
theorem dX10_findWays_54 : decode cX10_findWays 54 = .ok (.iload 4, 2) := by decide +kernel
theorem dX10_findWays_56 : decode cX10_findWays 56 = .ok (.iload_n 3, 1) := by decide +kernel
theorem dX10_findWays_57 : decode cX10_findWays 57 = .ok (.invokevirtual 97, 3) := by decide +kernel
theorem dX10_findWays_60 : decode cX10_findWays 60 = .ok (.ifCond .eq 106, 3) := by decide +kernel
theorem dX10_findWays_63 : decode cX10_findWays 63 = .ok (.aload_n 0, 1) := by decide +kernel
theorem dX10_findWays_64 : decode cX10_findWays 64 = .ok (.iload_n 1, 1) := by decide +kernel
theorem dX10_findWays_65 : decode cX10_findWays 65 = .ok (.iload_n 3, 1) := by decide +kernel
theorem dX10_findWays_66 : decode cX10_findWays 66 = .ok (.iload 4, 2) := by decide +kernel
theorem dX10_findWays_68 : decode cX10_findWays 68 = .ok (.invokevirtual 153, 3) := by decide +kernel
theorem dX10_findWays_71 : decode cX10_findWays 71 = .ok (.ifCond .eq 95, 3) := by decide +kernel
theorem dX10_findWays_74 : decode cX10_findWays 74 = .ok (.iload_n 1, 1) := by decide +kernel
theorem dX10_findWays_75 : decode cX10_findWays 75 = .ok (.aload_n 0, 1) := by decide +kernel
theorem dX10_findWays_76 : decode cX10_findWays 76 = .ok (.getfield 150, 3) := by decide +kernel
theorem dX10_findWays_79 : decode cX10_findWays 79 = .ok (.iconst 1, 1) := by decide +kernel
theorem dX10_findWays_80 : decode cX10_findWays 80 = .ok (.isub, 1) := by decide +kernel
theorem dX10_findWays_81 : decode cX10_findWays 81 = .ok (.if_icmp .ne 7, 3) := by decide +kernel
theorem dX10_findWays_84 : decode cX10_findWays 84 = .ok (.iconst 1, 1) := by decide +kernel
theorem dX10_findWays_85 : decode cX10_findWays 85 = .ok (.goto 4, 3) := by decide +kernel
theorem dX10_findWays_88 : decode cX10_findWays 88 = .ok (.iconst 0, 1) := by decide +kernel
theorem dX10_findWays_89 : decode cX10_findWays 89 = .ok (.istore 5, 2) := by decide +kernel
theorem dX10_findWays_91 : decode cX10_findWays 91 = .ok (.iconst 0, 1) := by decide +kernel
theorem dX10_findWays_92 : decode cX10_findWays 92 = .ok (.istore 6, 2) := by decide +kernel
theorem dX10_findWays_94 : decode cX10_findWays 94 = .ok (.iload 6, 2) := by decide +kernel
theorem dX10_findWays_96 : decode cX10_findWays 96 = .ok (.aload_n 0, 1) := by decide +kernel
theorem dX10_findWays_97 : decode cX10_findWays 97 = .ok (.getfield 94, 3) := by decide +kernel
theorem dX10_findWays_100 : decode cX10_findWays 100 = .ok (.if_icmp .ge 66, 3) := by decide +kernel
theorem dX10_findWays_103 : decode cX10_findWays 103 = .ok (.iload_n 1, 1) := by decide +kernel
theorem dX10_findWays_104 : decode cX10_findWays 104 = .ok (.aload_n 0, 1) := by decide +kernel
theorem dX10_findWays_105 : decode cX10_findWays 105 = .ok (.getfield 150, 3) := by decide +kernel
theorem dX10_findWays_108 : decode cX10_findWays 108 = .ok (.iconst 1, 1) := by decide +kernel
theorem dX10_findWays_109 : decode cX10_findWays 109 = .ok (.isub, 1) := by decide +kernel
theorem dX10_findWays_110 : decode cX10_findWays 110 = .ok (.if_icmp .ge 56, 3) := by decide +kernel
theorem dX10_findWays_113 : decode cX10_findWays 113 = .ok (.iload 5, 2) := by decide +kernel
theorem dX10_findWays_115 : decode cX10_findWays 115 = .ok (.aload_n 0, 1) := by decide +kernel
theorem dX10_findWays_116 : decode cX10_findWays 116 = .ok (.iload_n 3, 1) := by decide +kernel
theorem dX10_findWays_117 : decode cX10_findWays 117 = .ok (.iload 4, 2) := by decide +kernel
theorem dX10_findWays_119 : decode cX10_findWays 119 = .ok (.iload 6, 2) := by decide +kernel
theorem dX10_findWays_121 : decode cX10_findWays 121 = .ok (.invokevirtual 156, 3) := by decide +kernel
theorem dX10_findWays_124 : decode cX10_findWays 124 = .ok (.ifCond .eq 32, 3) := by decide +kernel
theorem dX10_findWays_127 : decode cX10_findWays 127 = .ok (.aload_n 0, 1) := by decide +kernel
theorem dX10_findWays_128 : decode cX10_findWays 128 = .ok (.getfield 57, 3) := by decide +kernel
theorem dX10_findWays_131 : decode cX10_findWays 131 = .ok (.sipush 170, 3) := by decide +kernel
theorem dX10_findWays_134 : decode cX10_findWays 134 = .ok (.iload_n 1, 1) := by decide +kernel
theorem dX10_findWays_135 : decode cX10_findWays 135 = .ok (.iconst 1, 1) := by decide +kernel
theorem dX10_findWays_136 : decode cX10_findWays 136 = .ok (.iadd, 1) := by decide +kernel
theorem dX10_findWays_137 : decode cX10_findWays 137 = .ok (.imul, 1) := by decide +kernel
theorem dX10_findWays_138 : decode cX10_findWays 138 = .ok (.bipush 17, 2) := by decide +kernel
theorem dX10_findWays_140 : decode cX10_findWays 140 = .ok (.aload_n 0, 1) := by decide +kernel
theorem dX10_findWays_141 : decode cX10_findWays 141 = .ok (.iload 6, 2) := by decide +kernel
theorem dX10_findWays_143 : decode cX10_findWays 143 = .ok (.iload_n 3, 1) := by decide +kernel
theorem dX10_findWays_144 : decode cX10_findWays 144 = .ok (.invokevirtual 143, 3) := by decide +kernel
theorem dX10_findWays_147 : decode cX10_findWays 147 = .ok (.imul, 1) := by decide +kernel
theorem dX10_findWays_148 : decode cX10_findWays 148 = .ok (.iadd, 1) := by decide +kernel
theorem dX10_findWays_149 : decode cX10_findWays 149 = .ok (.iload 6, 2) := by decide +kernel
theorem dX10_findWays_151 : decode cX10_findWays 151 = .ok (.iadd, 1) := by decide +kernel
theorem dX10_findWays_152 : decode cX10_findWays 152 = .ok (.iaload, 1) := by decide +kernel
theorem dX10_findWays_153 : decode cX10_findWays 153 = .ok (.goto 4, 3) := by decide +kernel
theorem dX10_findWays_156 : decode cX10_findWays 156 = .ok (.iconst 0, 1) := by decide +kernel
theorem dX10_findWays_157 : decode cX10_findWays 157 = .ok (.iadd, 1) := by decide +kernel
theorem dX10_findWays_158 : decode cX10_findWays 158 = .ok (.istore 5, 2) := by decide +kernel
theorem dX10_findWays_160 : decode cX10_findWays 160 = .ok (.iinc 6 1, 3) := by decide +kernel
theorem dX10_findWays_163 : decode cX10_findWays 163 = .ok (.goto (-69), 3) := by decide +kernel
theorem dX10_findWays_166 : decode cX10_findWays 166 = .ok (.aload_n 0, 1) := by decide +kernel
theorem dX10_findWays_167 : decode cX10_findWays 167 = .ok (.getfield 57, 3) := by decide +kernel
theorem dX10_findWays_170 : decode cX10_findWays 170 = .ok (.sipush 170, 3) := by decide +kernel
theorem dX10_findWays_173 : decode cX10_findWays 173 = .ok (.iload_n 1, 1) := by decide +kernel
theorem dX10_findWays_174 : decode cX10_findWays 174 = .ok (.imul, 1) := by decide +kernel
theorem dX10_findWays_175 : decode cX10_findWays 175 = .ok (.iload_n 2, 1) := by decide +kernel
theorem dX10_findWays_176 : decode cX10_findWays 176 = .ok (.iadd, 1) := by decide +kernel
theorem dX10_findWays_177 : decode cX10_findWays 177 = .ok (.iload 5, 2) := by decide +kernel
theorem dX10_findWays_179 : decode cX10_findWays 179 = .ok (.iastore, 1) := by decide +kernel
theorem dX10_findWays_180 : decode cX10_findWays 180 = .ok (.iinc 2 1, 3) := by decide +kernel
theorem dX10_findWays_183 : decode cX10_findWays 183 = .ok (.goto (-170), 3) := by decide +kernel
theorem dX10_findWays_186 : decode cX10_findWays 186 = .ok (.iinc 1 (-1), 3) := by decide +kernel
theorem dX10_findWays_189 : decode cX10_findWays 189 = .ok (.goto (-182), 3) := by decide +kernel
theorem dX10_findWays_192 : decode cX10_findWays 192 = .ok (.return_, 1) := by decide +kernel
theorem dX10_ways_0 : decode cX10_ways 0 = .ok (.iload_n 1, 1) := by decide +kernel
theorem dX10_ways_1 : decode cX10_ways 1 = .ok (.invokestatic 101, 3) := by decide +kernel
theorem dX10_ways_4 : decode cX10_ways 4 = .ok (.ifCond .ne 6, 3) := by decide +kernel
theorem dX10_ways_7 : decode cX10_ways 7 = .ok (.bipush (-2), 2) := by decide +kernel
theorem dX10_ways_9 : decode cX10_ways 9 = .ok (.ireturn, 1) := by decide +kernel
theorem dX10_ways_10 : decode cX10_ways 10 = .ok (.aload_n 0, 1) := by decide +kernel
theorem dX10_ways_11 : decode cX10_ways 11 = .ok (.invokevirtual 159, 3) := by decide +kernel
theorem dX10_ways_14 : decode cX10_ways 14 = .ok (.aload_n 0, 1) := by decide +kernel
theorem dX10_ways_15 : decode cX10_ways 15 = .ok (.getfield 150, 3) := by decide +kernel
theorem dX10_ways_18 : decode cX10_ways 18 = .ok (.ifCond .ne 7, 3) := by decide +kernel
theorem dX10_ways_21 : decode cX10_ways 21 = .ok (.iconst 1, 1) := by decide +kernel
theorem dX10_ways_22 : decode cX10_ways 22 = .ok (.goto 15, 3) := by decide +kernel
theorem dX10_ways_25 : decode cX10_ways 25 = .ok (.aload_n 0, 1) := by decide +kernel
theorem dX10_ways_26 : decode cX10_ways 26 = .ok (.getfield 57, 3) := by decide +kernel
theorem dX10_ways_29 : decode cX10_ways 29 = .ok (.bipush 17, 2) := by decide +kernel
theorem dX10_ways_31 : decode cX10_ways 31 = .ok (.iload_n 1, 1) := by decide +kernel
theorem dX10_ways_32 : decode cX10_ways 32 = .ok (.imul, 1) := by decide +kernel
theorem dX10_ways_33 : decode cX10_ways 33 = .ok (.bipush 16, 2) := by decide +kernel
theorem dX10_ways_35 : decode cX10_ways 35 = .ok (.iadd, 1) := by decide +kernel
theorem dX10_ways_36 : decode cX10_ways 36 = .ok (.iaload, 1) := by decide +kernel
theorem dX10_ways_37 : decode cX10_ways 37 = .ok (.ireturn, 1) := by decide +kernel
theorem dX10_only_0 : decode cX10_only 0 = .ok (.iload_n 1, 1) := by decide +kernel
theorem dX10_only_1 : decode cX10_only 1 = .ok (.invokestatic 101, 3) := by decide +kernel
theorem dX10_only_4 : decode cX10_only 4 = .ok (.ifCond .ne 6, 3) := by decide +kernel
theorem dX10_only_7 : decode cX10_only 7 = .ok (.bipush (-2), 2) := by decide +kernel
theorem dX10_only_9 : decode cX10_only 9 = .ok (.ireturn, 1) := by decide +kernel
theorem dX10_only_10 : decode cX10_only 10 = .ok (.iload_n 2, 1) := by decide +kernel
theorem dX10_only_11 : decode cX10_only 11 = .ok (.ifCond .ge 6, 3) := by decide +kernel
theorem dX10_only_14 : decode cX10_only 14 = .ok (.bipush (-3), 2) := by decide +kernel
theorem dX10_only_16 : decode cX10_only 16 = .ok (.ireturn, 1) := by decide +kernel
theorem dX10_only_17 : decode cX10_only 17 = .ok (.aload_n 0, 1) := by decide +kernel
theorem dX10_only_18 : decode cX10_only 18 = .ok (.invokevirtual 159, 3) := by decide +kernel
theorem dX10_only_21 : decode cX10_only 21 = .ok (.iload_n 2, 1) := by decide +kernel
theorem dX10_only_22 : decode cX10_only 22 = .ok (.aload_n 0, 1) := by decide +kernel
theorem dX10_only_23 : decode cX10_only 23 = .ok (.getfield 150, 3) := by decide +kernel
theorem dX10_only_26 : decode cX10_only 26 = .ok (.if_icmp .ge 19, 3) := by decide +kernel
theorem dX10_only_29 : decode cX10_only 29 = .ok (.aload_n 0, 1) := by decide +kernel
theorem dX10_only_30 : decode cX10_only 30 = .ok (.getfield 57, 3) := by decide +kernel
theorem dX10_only_33 : decode cX10_only 33 = .ok (.bipush 17, 2) := by decide +kernel
theorem dX10_only_35 : decode cX10_only 35 = .ok (.iload_n 1, 1) := by decide +kernel
theorem dX10_only_36 : decode cX10_only 36 = .ok (.imul, 1) := by decide +kernel
theorem dX10_only_37 : decode cX10_only 37 = .ok (.bipush 16, 2) := by decide +kernel
theorem dX10_only_39 : decode cX10_only 39 = .ok (.iadd, 1) := by decide +kernel
theorem dX10_only_40 : decode cX10_only 40 = .ok (.iaload, 1) := by decide +kernel
theorem dX10_only_41 : decode cX10_only 41 = .ok (.iconst 1, 1) := by decide +kernel
theorem dX10_only_42 : decode cX10_only 42 = .ok (.if_icmp .eq 5, 3) := by decide +kernel
theorem dX10_only_45 : decode cX10_only 45 = .ok (.iconst (-1), 1) := by decide +kernel
theorem dX10_only_46 : decode cX10_only 46 = .ok (.ireturn, 1) := by decide +kernel
theorem dX10_only_47 : decode cX10_only 47 = .ok (.iload_n 1, 1) := by decide +kernel
theorem dX10_only_48 : decode cX10_only 48 = .ok (.istore_n 3, 1) := by decide +kernel
theorem dX10_only_49 : decode cX10_only 49 = .ok (.iconst (-1), 1) := by decide +kernel
theorem dX10_only_50 : decode cX10_only 50 = .ok (.istore 4, 2) := by decide +kernel
theorem dX10_only_52 : decode cX10_only 52 = .ok (.iconst 0, 1) := by decide +kernel
theorem dX10_only_53 : decode cX10_only 53 = .ok (.istore 5, 2) := by decide +kernel
theorem dX10_only_55 : decode cX10_only 55 = .ok (.iload 5, 2) := by decide +kernel
theorem dX10_only_57 : decode cX10_only 57 = .ok (.iload_n 2, 1) := by decide +kernel
theorem dX10_only_58 : decode cX10_only 58 = .ok (.if_icmp .ge 105, 3) := by decide +kernel
theorem dX10_only_61 : decode cX10_only 61 = .ok (.iconst (-1), 1) := by decide +kernel
theorem dX10_only_62 : decode cX10_only 62 = .ok (.istore 6, 2) := by decide +kernel
theorem dX10_only_64 : decode cX10_only 64 = .ok (.iconst 0, 1) := by decide +kernel
theorem dX10_only_65 : decode cX10_only 65 = .ok (.istore 7, 2) := by decide +kernel
theorem dX10_only_67 : decode cX10_only 67 = .ok (.iload 7, 2) := by decide +kernel
theorem dX10_only_69 : decode cX10_only 69 = .ok (.aload_n 0, 1) := by decide +kernel
theorem dX10_only_70 : decode cX10_only 70 = .ok (.getfield 94, 3) := by decide +kernel
theorem dX10_only_73 : decode cX10_only 73 = .ok (.if_icmp .ge 72, 3) := by decide +kernel
theorem dX10_only_76 : decode cX10_only 76 = .ok (.aload_n 0, 1) := by decide +kernel
theorem dX10_only_77 : decode cX10_only 77 = .ok (.iload_n 3, 1) := by decide +kernel
theorem dX10_only_78 : decode cX10_only 78 = .ok (.iload 4, 2) := by decide +kernel
theorem dX10_only_80 : decode cX10_only 80 = .ok (.iload 7, 2) := by decide +kernel
theorem dX10_only_82 : decode cX10_only 82 = .ok (.invokevirtual 156, 3) := by decide +kernel
theorem dX10_only_85 : decode cX10_only 85 = .ok (.ifCond .eq 37, 3) := by decide +kernel
theorem dX10_only_88 : decode cX10_only 88 = .ok (.aload_n 0, 1) := by decide +kernel
theorem dX10_only_89 : decode cX10_only 89 = .ok (.getfield 57, 3) := by decide +kernel
theorem dX10_only_92 : decode cX10_only 92 = .ok (.sipush 170, 3) := by decide +kernel
theorem dX10_only_95 : decode cX10_only 95 = .ok (.iload 5, 2) := by decide +kernel
theorem dX10_only_97 : decode cX10_only 97 = .ok (.iconst 1, 1) := by decide +kernel
theorem dX10_only_98 : decode cX10_only 98 = .ok (.iadd, 1) := by decide +kernel
theorem dX10_only_99 : decode cX10_only 99 = .ok (.imul, 1) := by decide +kernel
theorem dX10_only_100 : decode cX10_only 100 = .ok (.bipush 17, 2) := by decide +kernel
theorem dX10_only_102 : decode cX10_only 102 = .ok (.aload_n 0, 1) := by decide +kernel
theorem dX10_only_103 : decode cX10_only 103 = .ok (.iload 7, 2) := by decide +kernel
theorem dX10_only_105 : decode cX10_only 105 = .ok (.iload_n 3, 1) := by decide +kernel
theorem dX10_only_106 : decode cX10_only 106 = .ok (.invokevirtual 143, 3) := by decide +kernel
theorem dX10_only_109 : decode cX10_only 109 = .ok (.imul, 1) := by decide +kernel
theorem dX10_only_110 : decode cX10_only 110 = .ok (.iadd, 1) := by decide +kernel
theorem dX10_only_111 : decode cX10_only 111 = .ok (.iload 7, 2) := by decide +kernel
theorem dX10_only_113 : decode cX10_only 113 = .ok (.iadd, 1) := by decide +kernel
theorem dX10_only_114 : decode cX10_only 114 = .ok (.iaload, 1) := by decide +kernel
theorem dX10_only_115 : decode cX10_only 115 = .ok (.ifCond .le 7, 3) := by decide +kernel
theorem dX10_only_118 : decode cX10_only 118 = .ok (.iconst 1, 1) := by decide +kernel
theorem dX10_only_119 : decode cX10_only 119 = .ok (.goto 4, 3) := by decide +kernel
theorem dX10_only_122 : decode cX10_only 122 = .ok (.iconst 0, 1) := by decide +kernel
theorem dX10_only_123 : decode cX10_only 123 = .ok (.istore 8, 2) := by decide +kernel
theorem dX10_only_125 : decode cX10_only 125 = .ok (.iload 8, 2) := by decide +kernel
theorem dX10_only_127 : decode cX10_only 127 = .ok (.ifCond .eq 8, 3) := by decide +kernel
theorem dX10_only_130 : decode cX10_only 130 = .ok (.iload 7, 2) := by decide +kernel
theorem dX10_only_132 : decode cX10_only 132 = .ok (.goto 5, 3) := by decide +kernel
theorem dX10_only_135 : decode cX10_only 135 = .ok (.iload 6, 2) := by decide +kernel
theorem dX10_only_137 : decode cX10_only 137 = .ok (.istore 6, 2) := by decide +kernel
theorem dX10_only_139 : decode cX10_only 139 = .ok (.iinc 7 1, 3) := by decide +kernel
theorem dX10_only_142 : decode cX10_only 142 = .ok (.goto (-75), 3) := by decide +kernel
theorem dX10_only_145 : decode cX10_only 145 = .ok (.aload_n 0, 1) := by decide +kernel
theorem dX10_only_146 : decode cX10_only 146 = .ok (.iload 6, 2) := by decide +kernel
theorem dX10_only_148 : decode cX10_only 148 = .ok (.iload_n 3, 1) := by decide +kernel
theorem dX10_only_149 : decode cX10_only 149 = .ok (.invokevirtual 143, 3) := by decide +kernel
theorem dX10_only_152 : decode cX10_only 152 = .ok (.istore_n 3, 1) := by decide +kernel
theorem dX10_only_153 : decode cX10_only 153 = .ok (.iload 6, 2) := by decide +kernel
theorem dX10_only_155 : decode cX10_only 155 = .ok (.istore 4, 2) := by decide +kernel
theorem dX10_only_157 : decode cX10_only 157 = .ok (.iinc 5 1, 3) := by decide +kernel
theorem dX10_only_160 : decode cX10_only 160 = .ok (.goto (-105), 3) := by decide +kernel
theorem dX10_only_163 : decode cX10_only 163 = .ok (.iload_n 3, 1) := by decide +kernel
theorem dX10_only_164 : decode cX10_only 164 = .ok (.ireturn, 1) := by decide +kernel
theorem dX10_route_0 : decode cX10_route 0 = .ok (.iload_n 1, 1) := by decide +kernel
theorem dX10_route_1 : decode cX10_route 1 = .ok (.invokestatic 101, 3) := by decide +kernel
theorem dX10_route_4 : decode cX10_route 4 = .ok (.ifCond .ne 6, 3) := by decide +kernel
theorem dX10_route_7 : decode cX10_route 7 = .ok (.bipush (-2), 2) := by decide +kernel
theorem dX10_route_9 : decode cX10_route 9 = .ok (.ireturn, 1) := by decide +kernel
theorem dX10_route_10 : decode cX10_route 10 = .ok (.iconst 0, 1) := by decide +kernel
theorem dX10_route_11 : decode cX10_route 11 = .ok (.istore_n 2, 1) := by decide +kernel
theorem dX10_route_12 : decode cX10_route 12 = .ok (.iload_n 2, 1) := by decide +kernel
theorem dX10_route_13 : decode cX10_route 13 = .ok (.aload_n 0, 1) := by decide +kernel
theorem dX10_route_14 : decode cX10_route 14 = .ok (.getfield 162, 3) := by decide +kernel
theorem dX10_route_17 : decode cX10_route 17 = .ok (.if_icmp .ge 22, 3) := by decide +kernel
theorem dX10_route_20 : decode cX10_route 20 = .ok (.aload_n 0, 1) := by decide +kernel
theorem dX10_route_21 : decode cX10_route 21 = .ok (.getfield 60, 3) := by decide +kernel
theorem dX10_route_24 : decode cX10_route 24 = .ok (.iload_n 2, 1) := by decide +kernel
theorem dX10_route_25 : decode cX10_route 25 = .ok (.iaload, 1) := by decide +kernel
theorem dX10_route_26 : decode cX10_route 26 = .ok (.iload_n 1, 1) := by decide +kernel
theorem dX10_route_27 : decode cX10_route 27 = .ok (.if_icmp .ne 6, 3) := by decide +kernel
theorem dX10_route_30 : decode cX10_route 30 = .ok (.bipush (-4), 2) := by decide +kernel
theorem dX10_route_32 : decode cX10_route 32 = .ok (.ireturn, 1) := by decide +kernel
theorem dX10_route_33 : decode cX10_route 33 = .ok (.iinc 2 1, 3) := by decide +kernel
end
section
theorem dX10_route_36 : decode cX10_route 36 = .ok (.goto (-24), 3) := by decide +kernel
theorem dX10_route_39 : decode cX10_route 39 = .ok (.aload_n 0, 1) := by decide +kernel
theorem dX10_route_40 : decode cX10_route 40 = .ok (.getfield 162, 3) := by decide +kernel
theorem dX10_route_43 : decode cX10_route 43 = .ok (.ifCond .le 26, 3) := by decide +kernel
theorem dX10_route_46 : decode cX10_route 46 = .ok (.aload_n 0, 1) := by decide +kernel
theorem dX10_route_47 : decode cX10_route 47 = .ok (.aload_n 0, 1) := by decide +kernel
theorem dX10_route_48 : decode cX10_route 48 = .ok (.getfield 60, 3) := by decide +kernel
theorem dX10_route_51 : decode cX10_route 51 = .ok (.aload_n 0, 1) := by decide +kernel
theorem dX10_route_52 : decode cX10_route 52 = .ok (.getfield 162, 3) := by decide +kernel
theorem dX10_route_55 : decode cX10_route 55 = .ok (.iconst 1, 1) := by decide +kernel
theorem dX10_route_56 : decode cX10_route 56 = .ok (.isub, 1) := by decide +kernel
theorem dX10_route_57 : decode cX10_route 57 = .ok (.iaload, 1) := by decide +kernel
theorem dX10_route_58 : decode cX10_route 58 = .ok (.iload_n 1, 1) := by decide +kernel
theorem dX10_route_59 : decode cX10_route 59 = .ok (.invokevirtual 105, 3) := by decide +kernel
theorem dX10_route_62 : decode cX10_route 62 = .ok (.iconst (-1), 1) := by decide +kernel
theorem dX10_route_63 : decode cX10_route 63 = .ok (.if_icmp .ne 6, 3) := by decide +kernel
theorem dX10_route_66 : decode cX10_route 66 = .ok (.bipush (-4), 2) := by decide +kernel
theorem dX10_route_68 : decode cX10_route 68 = .ok (.ireturn, 1) := by decide +kernel
theorem dX10_route_69 : decode cX10_route 69 = .ok (.aload_n 0, 1) := by decide +kernel
theorem dX10_route_70 : decode cX10_route 70 = .ok (.getfield 162, 3) := by decide +kernel
theorem dX10_route_73 : decode cX10_route 73 = .ok (.bipush 10, 2) := by decide +kernel
theorem dX10_route_75 : decode cX10_route 75 = .ok (.if_icmp .ne 6, 3) := by decide +kernel
theorem dX10_route_78 : decode cX10_route 78 = .ok (.bipush (-5), 2) := by decide +kernel
theorem dX10_route_80 : decode cX10_route 80 = .ok (.ireturn, 1) := by decide +kernel
theorem dX10_route_81 : decode cX10_route 81 = .ok (.aload_n 0, 1) := by decide +kernel
theorem dX10_route_82 : decode cX10_route 82 = .ok (.getfield 60, 3) := by decide +kernel
theorem dX10_route_85 : decode cX10_route 85 = .ok (.aload_n 0, 1) := by decide +kernel
theorem dX10_route_86 : decode cX10_route 86 = .ok (.getfield 162, 3) := by decide +kernel
theorem dX10_route_89 : decode cX10_route 89 = .ok (.iload_n 1, 1) := by decide +kernel
theorem dX10_route_90 : decode cX10_route 90 = .ok (.iastore, 1) := by decide +kernel
theorem dX10_route_91 : decode cX10_route 91 = .ok (.aload_n 0, 1) := by decide +kernel
theorem dX10_route_92 : decode cX10_route 92 = .ok (.dup, 1) := by decide +kernel
theorem dX10_route_93 : decode cX10_route 93 = .ok (.getfield 162, 3) := by decide +kernel
theorem dX10_route_96 : decode cX10_route 96 = .ok (.iconst 1, 1) := by decide +kernel
theorem dX10_route_97 : decode cX10_route 97 = .ok (.iadd, 1) := by decide +kernel
theorem dX10_route_98 : decode cX10_route 98 = .ok (.putfield 162, 3) := by decide +kernel
theorem dX10_route_101 : decode cX10_route 101 = .ok (.aload_n 0, 1) := by decide +kernel
theorem dX10_route_102 : decode cX10_route 102 = .ok (.getfield 162, 3) := by decide +kernel
theorem dX10_route_105 : decode cX10_route 105 = .ok (.ireturn, 1) := by decide +kernel
theorem dX10_unroute_0 : decode cX10_unroute 0 = .ok (.aload_n 0, 1) := by decide +kernel
theorem dX10_unroute_1 : decode cX10_unroute 1 = .ok (.getfield 162, 3) := by decide +kernel
theorem dX10_unroute_4 : decode cX10_unroute 4 = .ok (.istore_n 1, 1) := by decide +kernel
theorem dX10_unroute_5 : decode cX10_unroute 5 = .ok (.aload_n 0, 1) := by decide +kernel
theorem dX10_unroute_6 : decode cX10_unroute 6 = .ok (.iconst 0, 1) := by decide +kernel
theorem dX10_unroute_7 : decode cX10_unroute 7 = .ok (.putfield 162, 3) := by decide +kernel
theorem dX10_unroute_10 : decode cX10_unroute 10 = .ok (.iload_n 1, 1) := by decide +kernel
theorem dX10_unroute_11 : decode cX10_unroute 11 = .ok (.ireturn, 1) := by decide +kernel
theorem dX10_isHarmless_0 : decode cX10_isHarmless 0 = .ok (.aload_n 0, 1) := by decide +kernel
theorem dX10_isHarmless_1 : decode cX10_isHarmless 1 = .ok (.getfield 16, 3) := by decide +kernel
theorem dX10_isHarmless_4 : decode cX10_isHarmless 4 = .ok (.iload_n 1, 1) := by decide +kernel
theorem dX10_isHarmless_5 : decode cX10_isHarmless 5 = .ok (.iaload, 1) := by decide +kernel
theorem dX10_isHarmless_6 : decode cX10_isHarmless 6 = .ok (.aload_n 0, 1) := by decide +kernel
theorem dX10_isHarmless_7 : decode cX10_isHarmless 7 = .ok (.getfield 125, 3) := by decide +kernel
theorem dX10_isHarmless_10 : decode cX10_isHarmless 10 = .ok (.if_icmp .gt 23, 3) := by decide +kernel
theorem dX10_isHarmless_13 : decode cX10_isHarmless 13 = .ok (.aload_n 0, 1) := by decide +kernel
theorem dX10_isHarmless_14 : decode cX10_isHarmless 14 = .ok (.aload_n 0, 1) := by decide +kernel
theorem dX10_isHarmless_15 : decode cX10_isHarmless 15 = .ok (.iload_n 1, 1) := by decide +kernel
theorem dX10_isHarmless_16 : decode cX10_isHarmless 16 = .ok (.iload_n 2, 1) := by decide +kernel
theorem dX10_isHarmless_17 : decode cX10_isHarmless 17 = .ok (.invokevirtual 143, 3) := by decide +kernel
theorem dX10_isHarmless_20 : decode cX10_isHarmless 20 = .ok (.invokevirtual 118, 3) := by decide +kernel
theorem dX10_isHarmless_23 : decode cX10_isHarmless 23 = .ok (.iconst 1, 1) := by decide +kernel
theorem dX10_isHarmless_24 : decode cX10_isHarmless 24 = .ok (.iload_n 1, 1) := by decide +kernel
theorem dX10_isHarmless_25 : decode cX10_isHarmless 25 = .ok (.ishl, 1) := by decide +kernel
theorem dX10_isHarmless_26 : decode cX10_isHarmless 26 = .ok (.if_icmp .ne 7, 3) := by decide +kernel
theorem dX10_isHarmless_29 : decode cX10_isHarmless 29 = .ok (.iconst 1, 1) := by decide +kernel
theorem dX10_isHarmless_30 : decode cX10_isHarmless 30 = .ok (.goto 4, 3) := by decide +kernel
theorem dX10_isHarmless_33 : decode cX10_isHarmless 33 = .ok (.iconst 0, 1) := by decide +kernel
theorem dX10_isHarmless_34 : decode cX10_isHarmless 34 = .ok (.ireturn, 1) := by decide +kernel
theorem dX10_isNeeded_0 : decode cX10_isNeeded 0 = .ok (.iload_n 1, 1) := by decide +kernel
theorem dX10_isNeeded_1 : decode cX10_isNeeded 1 = .ok (.iconst (-1), 1) := by decide +kernel
theorem dX10_isNeeded_2 : decode cX10_isNeeded 2 = .ok (.if_icmp .ne 7, 3) := by decide +kernel
theorem dX10_isNeeded_5 : decode cX10_isNeeded 5 = .ok (.iconst (-1), 1) := by decide +kernel
theorem dX10_isNeeded_6 : decode cX10_isNeeded 6 = .ok (.goto 9, 3) := by decide +kernel
theorem dX10_isNeeded_9 : decode cX10_isNeeded 9 = .ok (.aload_n 0, 1) := by decide +kernel
theorem dX10_isNeeded_10 : decode cX10_isNeeded 10 = .ok (.iload_n 1, 1) := by decide +kernel
theorem dX10_isNeeded_11 : decode cX10_isNeeded 11 = .ok (.iload_n 2, 1) := by decide +kernel
theorem dX10_isNeeded_12 : decode cX10_isNeeded 12 = .ok (.invokevirtual 105, 3) := by decide +kernel
theorem dX10_isNeeded_15 : decode cX10_isNeeded 15 = .ok (.istore 4, 2) := by decide +kernel
theorem dX10_isNeeded_17 : decode cX10_isNeeded 17 = .ok (.aload_n 0, 1) := by decide +kernel
theorem dX10_isNeeded_18 : decode cX10_isNeeded 18 = .ok (.iload_n 2, 1) := by decide +kernel
theorem dX10_isNeeded_19 : decode cX10_isNeeded 19 = .ok (.iload_n 3, 1) := by decide +kernel
theorem dX10_isNeeded_20 : decode cX10_isNeeded 20 = .ok (.invokevirtual 105, 3) := by decide +kernel
theorem dX10_isNeeded_23 : decode cX10_isNeeded 23 = .ok (.istore 5, 2) := by decide +kernel
theorem dX10_isNeeded_25 : decode cX10_isNeeded 25 = .ok (.iconst 0, 1) := by decide +kernel
theorem dX10_isNeeded_26 : decode cX10_isNeeded 26 = .ok (.istore 6, 2) := by decide +kernel
theorem dX10_isNeeded_28 : decode cX10_isNeeded 28 = .ok (.iconst 0, 1) := by decide +kernel
theorem dX10_isNeeded_29 : decode cX10_isNeeded 29 = .ok (.istore 7, 2) := by decide +kernel
theorem dX10_isNeeded_31 : decode cX10_isNeeded 31 = .ok (.iload 7, 2) := by decide +kernel
theorem dX10_isNeeded_33 : decode cX10_isNeeded 33 = .ok (.aload_n 0, 1) := by decide +kernel
theorem dX10_isNeeded_34 : decode cX10_isNeeded 34 = .ok (.getfield 94, 3) := by decide +kernel
theorem dX10_isNeeded_37 : decode cX10_isNeeded 37 = .ok (.if_icmp .ge 55, 3) := by decide +kernel
theorem dX10_isNeeded_40 : decode cX10_isNeeded 40 = .ok (.iload 6, 2) := by decide +kernel
theorem dX10_isNeeded_42 : decode cX10_isNeeded 42 = .ok (.ifCond .ne 37, 3) := by decide +kernel
theorem dX10_isNeeded_45 : decode cX10_isNeeded 45 = .ok (.aload_n 0, 1) := by decide +kernel
theorem dX10_isNeeded_46 : decode cX10_isNeeded 46 = .ok (.iload 7, 2) := by decide +kernel
theorem dX10_isNeeded_48 : decode cX10_isNeeded 48 = .ok (.iload_n 2, 1) := by decide +kernel
theorem dX10_isNeeded_49 : decode cX10_isNeeded 49 = .ok (.invokevirtual 97, 3) := by decide +kernel
theorem dX10_isNeeded_52 : decode cX10_isNeeded 52 = .ok (.ifCond .eq 31, 3) := by decide +kernel
theorem dX10_isNeeded_55 : decode cX10_isNeeded 55 = .ok (.iload 7, 2) := by decide +kernel
theorem dX10_isNeeded_57 : decode cX10_isNeeded 57 = .ok (.iload 4, 2) := by decide +kernel
theorem dX10_isNeeded_59 : decode cX10_isNeeded 59 = .ok (.if_icmp .eq 24, 3) := by decide +kernel
theorem dX10_isNeeded_62 : decode cX10_isNeeded 62 = .ok (.iload 7, 2) := by decide +kernel
theorem dX10_isNeeded_64 : decode cX10_isNeeded 64 = .ok (.iload 5, 2) := by decide +kernel
theorem dX10_isNeeded_66 : decode cX10_isNeeded 66 = .ok (.if_icmp .eq 17, 3) := by decide +kernel
theorem dX10_isNeeded_69 : decode cX10_isNeeded 69 = .ok (.aload_n 0, 1) := by decide +kernel
theorem dX10_isNeeded_70 : decode cX10_isNeeded 70 = .ok (.iload 7, 2) := by decide +kernel
theorem dX10_isNeeded_72 : decode cX10_isNeeded 72 = .ok (.iload_n 2, 1) := by decide +kernel
theorem dX10_isNeeded_73 : decode cX10_isNeeded 73 = .ok (.invokevirtual 165, 3) := by decide +kernel
theorem dX10_isNeeded_76 : decode cX10_isNeeded 76 = .ok (.ifCond .ne 7, 3) := by decide +kernel
theorem dX10_isNeeded_79 : decode cX10_isNeeded 79 = .ok (.iconst 1, 1) := by decide +kernel
theorem dX10_isNeeded_80 : decode cX10_isNeeded 80 = .ok (.goto 4, 3) := by decide +kernel
theorem dX10_isNeeded_83 : decode cX10_isNeeded 83 = .ok (.iconst 0, 1) := by decide +kernel
theorem dX10_isNeeded_84 : decode cX10_isNeeded 84 = .ok (.istore 6, 2) := by decide +kernel
theorem dX10_isNeeded_86 : decode cX10_isNeeded 86 = .ok (.iinc 7 1, 3) := by decide +kernel
theorem dX10_isNeeded_89 : decode cX10_isNeeded 89 = .ok (.goto (-58), 3) := by decide +kernel
theorem dX10_isNeeded_92 : decode cX10_isNeeded 92 = .ok (.iload 6, 2) := by decide +kernel
theorem dX10_isNeeded_94 : decode cX10_isNeeded 94 = .ok (.ifCond .eq 19, 3) := by decide +kernel
theorem dX10_isNeeded_97 : decode cX10_isNeeded 97 = .ok (.aload_n 0, 1) := by decide +kernel
theorem dX10_isNeeded_98 : decode cX10_isNeeded 98 = .ok (.iload_n 2, 1) := by decide +kernel
theorem dX10_isNeeded_99 : decode cX10_isNeeded 99 = .ok (.iload 4, 2) := by decide +kernel
theorem dX10_isNeeded_101 : decode cX10_isNeeded 101 = .ok (.invokevirtual 140, 3) := by decide +kernel
theorem dX10_isNeeded_104 : decode cX10_isNeeded 104 = .ok (.iload 5, 2) := by decide +kernel
theorem dX10_isNeeded_106 : decode cX10_isNeeded 106 = .ok (.if_icmp .eq 7, 3) := by decide +kernel
theorem dX10_isNeeded_109 : decode cX10_isNeeded 109 = .ok (.iconst 1, 1) := by decide +kernel
theorem dX10_isNeeded_110 : decode cX10_isNeeded 110 = .ok (.goto 4, 3) := by decide +kernel
theorem dX10_isNeeded_113 : decode cX10_isNeeded 113 = .ok (.iconst 0, 1) := by decide +kernel
theorem dX10_isNeeded_114 : decode cX10_isNeeded 114 = .ok (.ireturn, 1) := by decide +kernel
theorem dX10_needed_0 : decode cX10_needed 0 = .ok (.iload_n 1, 1) := by decide +kernel
theorem dX10_needed_1 : decode cX10_needed 1 = .ok (.iconst 0, 1) := by decide +kernel
theorem dX10_needed_2 : decode cX10_needed 2 = .ok (.iconst 1, 1) := by decide +kernel
theorem dX10_needed_3 : decode cX10_needed 3 = .ok (.invokestatic 90, 3) := by decide +kernel
theorem dX10_needed_6 : decode cX10_needed 6 = .ok (.ifCond .ne 6, 3) := by decide +kernel
theorem dX10_needed_9 : decode cX10_needed 9 = .ok (.bipush (-3), 2) := by decide +kernel
theorem dX10_needed_11 : decode cX10_needed 11 = .ok (.ireturn, 1) := by decide +kernel
theorem dX10_needed_12 : decode cX10_needed 12 = .ok (.iconst 0, 1) := by decide +kernel
theorem dX10_needed_13 : decode cX10_needed 13 = .ok (.istore_n 2, 1) := by decide +kernel
theorem dX10_needed_14 : decode cX10_needed 14 = .ok (.iload_n 1, 1) := by decide +kernel
theorem dX10_needed_15 : decode cX10_needed 15 = .ok (.ifCond .ne 7, 3) := by decide +kernel
theorem dX10_needed_18 : decode cX10_needed 18 = .ok (.iconst 1, 1) := by decide +kernel
theorem dX10_needed_19 : decode cX10_needed 19 = .ok (.goto 4, 3) := by decide +kernel
theorem dX10_needed_22 : decode cX10_needed 22 = .ok (.iconst (-1), 1) := by decide +kernel
theorem dX10_needed_23 : decode cX10_needed 23 = .ok (.istore_n 3, 1) := by decide +kernel
theorem dX10_needed_24 : decode cX10_needed 24 = .ok (.iconst 0, 1) := by decide +kernel
theorem dX10_needed_25 : decode cX10_needed 25 = .ok (.istore 4, 2) := by decide +kernel
theorem dX10_needed_27 : decode cX10_needed 27 = .ok (.iload 4, 2) := by decide +kernel
theorem dX10_needed_29 : decode cX10_needed 29 = .ok (.aload_n 0, 1) := by decide +kernel
theorem dX10_needed_30 : decode cX10_needed 30 = .ok (.getfield 162, 3) := by decide +kernel
theorem dX10_needed_33 : decode cX10_needed 33 = .ok (.if_icmp .ge 99, 3) := by decide +kernel
theorem dX10_needed_36 : decode cX10_needed 36 = .ok (.iload 4, 2) := by decide +kernel
theorem dX10_needed_38 : decode cX10_needed 38 = .ok (.iload_n 3, 1) := by decide +kernel
theorem dX10_needed_39 : decode cX10_needed 39 = .ok (.iadd, 1) := by decide +kernel
theorem dX10_needed_40 : decode cX10_needed 40 = .ok (.iconst 0, 1) := by decide +kernel
theorem dX10_needed_41 : decode cX10_needed 41 = .ok (.aload_n 0, 1) := by decide +kernel
theorem dX10_needed_42 : decode cX10_needed 42 = .ok (.getfield 162, 3) := by decide +kernel
theorem dX10_needed_45 : decode cX10_needed 45 = .ok (.iconst 1, 1) := by decide +kernel
theorem dX10_needed_46 : decode cX10_needed 46 = .ok (.isub, 1) := by decide +kernel
theorem dX10_needed_47 : decode cX10_needed 47 = .ok (.invokestatic 90, 3) := by decide +kernel
theorem dX10_needed_50 : decode cX10_needed 50 = .ok (.ifCond .eq 76, 3) := by decide +kernel
theorem dX10_needed_53 : decode cX10_needed 53 = .ok (.iload 4, 2) := by decide +kernel
theorem dX10_needed_55 : decode cX10_needed 55 = .ok (.iload_n 3, 1) := by decide +kernel
theorem dX10_needed_56 : decode cX10_needed 56 = .ok (.isub, 1) := by decide +kernel
theorem dX10_needed_57 : decode cX10_needed 57 = .ok (.iconst 0, 1) := by decide +kernel
theorem dX10_needed_58 : decode cX10_needed 58 = .ok (.aload_n 0, 1) := by decide +kernel
theorem dX10_needed_59 : decode cX10_needed 59 = .ok (.getfield 162, 3) := by decide +kernel
theorem dX10_needed_62 : decode cX10_needed 62 = .ok (.iconst 1, 1) := by decide +kernel
theorem dX10_needed_63 : decode cX10_needed 63 = .ok (.isub, 1) := by decide +kernel
theorem dX10_needed_64 : decode cX10_needed 64 = .ok (.invokestatic 90, 3) := by decide +kernel
theorem dX10_needed_67 : decode cX10_needed 67 = .ok (.ifCond .eq 15, 3) := by decide +kernel
theorem dX10_needed_70 : decode cX10_needed 70 = .ok (.aload_n 0, 1) := by decide +kernel
theorem dX10_needed_71 : decode cX10_needed 71 = .ok (.getfield 60, 3) := by decide +kernel
theorem dX10_needed_74 : decode cX10_needed 74 = .ok (.iload 4, 2) := by decide +kernel
theorem dX10_needed_76 : decode cX10_needed 76 = .ok (.iload_n 3, 1) := by decide +kernel
theorem dX10_needed_77 : decode cX10_needed 77 = .ok (.isub, 1) := by decide +kernel
theorem dX10_needed_78 : decode cX10_needed 78 = .ok (.iaload, 1) := by decide +kernel
theorem dX10_needed_79 : decode cX10_needed 79 = .ok (.goto 4, 3) := by decide +kernel
theorem dX10_needed_82 : decode cX10_needed 82 = .ok (.iconst (-1), 1) := by decide +kernel
theorem dX10_needed_83 : decode cX10_needed 83 = .ok (.istore 5, 2) := by decide +kernel
theorem dX10_needed_85 : decode cX10_needed 85 = .ok (.iload_n 2, 1) := by decide +kernel
theorem dX10_needed_86 : decode cX10_needed 86 = .ok (.aload_n 0, 1) := by decide +kernel
theorem dX10_needed_87 : decode cX10_needed 87 = .ok (.iload 5, 2) := by decide +kernel
theorem dX10_needed_89 : decode cX10_needed 89 = .ok (.aload_n 0, 1) := by decide +kernel
theorem dX10_needed_90 : decode cX10_needed 90 = .ok (.getfield 60, 3) := by decide +kernel
theorem dX10_needed_93 : decode cX10_needed 93 = .ok (.iload 4, 2) := by decide +kernel
theorem dX10_needed_95 : decode cX10_needed 95 = .ok (.iaload, 1) := by decide +kernel
theorem dX10_needed_96 : decode cX10_needed 96 = .ok (.aload_n 0, 1) := by decide +kernel
theorem dX10_needed_97 : decode cX10_needed 97 = .ok (.getfield 60, 3) := by decide +kernel
theorem dX10_needed_100 : decode cX10_needed 100 = .ok (.iload 4, 2) := by decide +kernel
theorem dX10_needed_102 : decode cX10_needed 102 = .ok (.iload_n 3, 1) := by decide +kernel
theorem dX10_needed_103 : decode cX10_needed 103 = .ok (.iadd, 1) := by decide +kernel
theorem dX10_needed_104 : decode cX10_needed 104 = .ok (.iaload, 1) := by decide +kernel
theorem dX10_needed_105 : decode cX10_needed 105 = .ok (.invokevirtual 168, 3) := by decide +kernel
theorem dX10_needed_108 : decode cX10_needed 108 = .ok (.ifCond .eq 15, 3) := by decide +kernel
theorem dX10_needed_111 : decode cX10_needed 111 = .ok (.iconst 1, 1) := by decide +kernel
theorem dX10_needed_112 : decode cX10_needed 112 = .ok (.aload_n 0, 1) := by decide +kernel
theorem dX10_needed_113 : decode cX10_needed 113 = .ok (.getfield 60, 3) := by decide +kernel
theorem dX10_needed_116 : decode cX10_needed 116 = .ok (.iload 4, 2) := by decide +kernel
theorem dX10_needed_118 : decode cX10_needed 118 = .ok (.iaload, 1) := by decide +kernel
theorem dX10_needed_119 : decode cX10_needed 119 = .ok (.ishl, 1) := by decide +kernel
theorem dX10_needed_120 : decode cX10_needed 120 = .ok (.goto 4, 3) := by decide +kernel
theorem dX10_needed_123 : decode cX10_needed 123 = .ok (.iconst 0, 1) := by decide +kernel
theorem dX10_needed_124 : decode cX10_needed 124 = .ok (.ior, 1) := by decide +kernel
theorem dX10_needed_125 : decode cX10_needed 125 = .ok (.istore_n 2, 1) := by decide +kernel
theorem dX10_needed_126 : decode cX10_needed 126 = .ok (.iinc 4 1, 3) := by decide +kernel
theorem dX10_needed_129 : decode cX10_needed 129 = .ok (.goto (-102), 3) := by decide +kernel
theorem dX10_needed_132 : decode cX10_needed 132 = .ok (.iload_n 2, 1) := by decide +kernel
theorem dX10_needed_133 : decode cX10_needed 133 = .ok (.ireturn, 1) := by decide +kernel
theorem dX10_trail_0 : decode cX10_trail 0 = .ok (.iload_n 1, 1) := by decide +kernel
theorem dX10_trail_1 : decode cX10_trail 1 = .ok (.invokestatic 101, 3) := by decide +kernel
theorem dX10_trail_4 : decode cX10_trail 4 = .ok (.ifCond .ne 6, 3) := by decide +kernel
theorem dX10_trail_7 : decode cX10_trail 7 = .ok (.bipush (-2), 2) := by decide +kernel
theorem dX10_trail_9 : decode cX10_trail 9 = .ok (.ireturn, 1) := by decide +kernel
theorem dX10_trail_10 : decode cX10_trail 10 = .ok (.aload_n 0, 1) := by decide +kernel
theorem dX10_trail_11 : decode cX10_trail 11 = .ok (.getfield 171, 3) := by decide +kernel
theorem dX10_trail_14 : decode cX10_trail 14 = .ok (.bipush 6, 2) := by decide +kernel
theorem dX10_trail_16 : decode cX10_trail 16 = .ok (.if_icmp .ne 6, 3) := by decide +kernel
theorem dX10_trail_19 : decode cX10_trail 19 = .ok (.bipush (-5), 2) := by decide +kernel
theorem dX10_trail_21 : decode cX10_trail 21 = .ok (.ireturn, 1) := by decide +kernel
theorem dX10_trail_22 : decode cX10_trail 22 = .ok (.aload_n 0, 1) := by decide +kernel
theorem dX10_trail_23 : decode cX10_trail 23 = .ok (.getfield 69, 3) := by decide +kernel
theorem dX10_trail_26 : decode cX10_trail 26 = .ok (.aload_n 0, 1) := by decide +kernel
theorem dX10_trail_27 : decode cX10_trail 27 = .ok (.getfield 171, 3) := by decide +kernel
theorem dX10_trail_30 : decode cX10_trail 30 = .ok (.iload_n 2, 1) := by decide +kernel
theorem dX10_trail_31 : decode cX10_trail 31 = .ok (.bastore, 1) := by decide +kernel
theorem dX10_trail_32 : decode cX10_trail 32 = .ok (.aload_n 0, 1) := by decide +kernel
theorem dX10_trail_33 : decode cX10_trail 33 = .ok (.getfield 63, 3) := by decide +kernel
theorem dX10_trail_36 : decode cX10_trail 36 = .ok (.aload_n 0, 1) := by decide +kernel
theorem dX10_trail_37 : decode cX10_trail 37 = .ok (.getfield 171, 3) := by decide +kernel
theorem dX10_trail_40 : decode cX10_trail 40 = .ok (.iconst 1, 1) := by decide +kernel
theorem dX10_trail_41 : decode cX10_trail 41 = .ok (.iastore, 1) := by decide +kernel
theorem dX10_trail_42 : decode cX10_trail 42 = .ok (.aload_n 0, 1) := by decide +kernel
theorem dX10_trail_43 : decode cX10_trail 43 = .ok (.getfield 66, 3) := by decide +kernel
theorem dX10_trail_46 : decode cX10_trail 46 = .ok (.bipush 6, 2) := by decide +kernel
theorem dX10_trail_48 : decode cX10_trail 48 = .ok (.aload_n 0, 1) := by decide +kernel
theorem dX10_trail_49 : decode cX10_trail 49 = .ok (.getfield 171, 3) := by decide +kernel
theorem dX10_trail_52 : decode cX10_trail 52 = .ok (.imul, 1) := by decide +kernel
theorem dX10_trail_53 : decode cX10_trail 53 = .ok (.iload_n 1, 1) := by decide +kernel
theorem dX10_trail_54 : decode cX10_trail 54 = .ok (.iastore, 1) := by decide +kernel
theorem dX10_trail_55 : decode cX10_trail 55 = .ok (.aload_n 0, 1) := by decide +kernel
theorem dX10_trail_56 : decode cX10_trail 56 = .ok (.dup, 1) := by decide +kernel
theorem dX10_trail_57 : decode cX10_trail 57 = .ok (.getfield 171, 3) := by decide +kernel
theorem dX10_trail_60 : decode cX10_trail 60 = .ok (.iconst 1, 1) := by decide +kernel
theorem dX10_trail_61 : decode cX10_trail 61 = .ok (.iadd, 1) := by decide +kernel
theorem dX10_trail_62 : decode cX10_trail 62 = .ok (.putfield 171, 3) := by decide +kernel
theorem dX10_trail_65 : decode cX10_trail 65 = .ok (.aload_n 0, 1) := by decide +kernel
theorem dX10_trail_66 : decode cX10_trail 66 = .ok (.getfield 171, 3) := by decide +kernel
theorem dX10_trail_69 : decode cX10_trail 69 = .ok (.iconst 1, 1) := by decide +kernel
theorem dX10_trail_70 : decode cX10_trail 70 = .ok (.isub, 1) := by decide +kernel
theorem dX10_trail_71 : decode cX10_trail 71 = .ok (.ireturn, 1) := by decide +kernel
theorem dX10_add_0 : decode cX10_add 0 = .ok (.iload_n 1, 1) := by decide +kernel
theorem dX10_add_1 : decode cX10_add 1 = .ok (.iconst 0, 1) := by decide +kernel
theorem dX10_add_2 : decode cX10_add 2 = .ok (.aload_n 0, 1) := by decide +kernel
theorem dX10_add_3 : decode cX10_add 3 = .ok (.getfield 171, 3) := by decide +kernel
theorem dX10_add_6 : decode cX10_add 6 = .ok (.iconst 1, 1) := by decide +kernel
theorem dX10_add_7 : decode cX10_add 7 = .ok (.isub, 1) := by decide +kernel
theorem dX10_add_8 : decode cX10_add 8 = .ok (.invokestatic 90, 3) := by decide +kernel
theorem dX10_add_11 : decode cX10_add 11 = .ok (.ifCond .eq 10, 3) := by decide +kernel
theorem dX10_add_14 : decode cX10_add 14 = .ok (.iload_n 2, 1) := by decide +kernel
theorem dX10_add_15 : decode cX10_add 15 = .ok (.invokestatic 101, 3) := by decide +kernel
theorem dX10_add_18 : decode cX10_add 18 = .ok (.ifCond .ne 6, 3) := by decide +kernel
theorem dX10_add_21 : decode cX10_add 21 = .ok (.bipush (-2), 2) := by decide +kernel
theorem dX10_add_23 : decode cX10_add 23 = .ok (.ireturn, 1) := by decide +kernel
theorem dX10_add_24 : decode cX10_add 24 = .ok (.aload_n 0, 1) := by decide +kernel
theorem dX10_add_25 : decode cX10_add 25 = .ok (.getfield 63, 3) := by decide +kernel
theorem dX10_add_28 : decode cX10_add 28 = .ok (.iload_n 1, 1) := by decide +kernel
theorem dX10_add_29 : decode cX10_add 29 = .ok (.iaload, 1) := by decide +kernel
theorem dX10_add_30 : decode cX10_add 30 = .ok (.istore_n 3, 1) := by decide +kernel
theorem dX10_add_31 : decode cX10_add 31 = .ok (.iconst 0, 1) := by decide +kernel
theorem dX10_add_32 : decode cX10_add 32 = .ok (.istore 4, 2) := by decide +kernel
theorem dX10_add_34 : decode cX10_add 34 = .ok (.iload 4, 2) := by decide +kernel
theorem dX10_add_36 : decode cX10_add 36 = .ok (.iload_n 3, 1) := by decide +kernel
theorem dX10_add_37 : decode cX10_add 37 = .ok (.if_icmp .ge 28, 3) := by decide +kernel
theorem dX10_add_40 : decode cX10_add 40 = .ok (.aload_n 0, 1) := by decide +kernel
theorem dX10_add_41 : decode cX10_add 41 = .ok (.getfield 66, 3) := by decide +kernel
theorem dX10_add_44 : decode cX10_add 44 = .ok (.bipush 6, 2) := by decide +kernel
theorem dX10_add_46 : decode cX10_add 46 = .ok (.iload_n 1, 1) := by decide +kernel
theorem dX10_add_47 : decode cX10_add 47 = .ok (.imul, 1) := by decide +kernel
theorem dX10_add_48 : decode cX10_add 48 = .ok (.iload 4, 2) := by decide +kernel
theorem dX10_add_50 : decode cX10_add 50 = .ok (.iadd, 1) := by decide +kernel
theorem dX10_add_51 : decode cX10_add 51 = .ok (.iaload, 1) := by decide +kernel
theorem dX10_add_52 : decode cX10_add 52 = .ok (.iload_n 2, 1) := by decide +kernel
theorem dX10_add_53 : decode cX10_add 53 = .ok (.if_icmp .ne 6, 3) := by decide +kernel
theorem dX10_add_56 : decode cX10_add 56 = .ok (.bipush (-4), 2) := by decide +kernel
theorem dX10_add_58 : decode cX10_add 58 = .ok (.ireturn, 1) := by decide +kernel
theorem dX10_add_59 : decode cX10_add 59 = .ok (.iinc 4 1, 3) := by decide +kernel
theorem dX10_add_62 : decode cX10_add 62 = .ok (.goto (-28), 3) := by decide +kernel
theorem dX10_add_65 : decode cX10_add 65 = .ok (.aload_n 0, 1) := by decide +kernel
theorem dX10_add_66 : decode cX10_add 66 = .ok (.aload_n 0, 1) := by decide +kernel
theorem dX10_add_67 : decode cX10_add 67 = .ok (.getfield 66, 3) := by decide +kernel
theorem dX10_add_70 : decode cX10_add 70 = .ok (.bipush 6, 2) := by decide +kernel
theorem dX10_add_72 : decode cX10_add 72 = .ok (.iload_n 1, 1) := by decide +kernel
theorem dX10_add_73 : decode cX10_add 73 = .ok (.imul, 1) := by decide +kernel
theorem dX10_add_74 : decode cX10_add 74 = .ok (.iload_n 3, 1) := by decide +kernel
theorem dX10_add_75 : decode cX10_add 75 = .ok (.iadd, 1) := by decide +kernel
theorem dX10_add_76 : decode cX10_add 76 = .ok (.iconst 1, 1) := by decide +kernel
theorem dX10_add_77 : decode cX10_add 77 = .ok (.isub, 1) := by decide +kernel
theorem dX10_add_78 : decode cX10_add 78 = .ok (.iaload, 1) := by decide +kernel
theorem dX10_add_79 : decode cX10_add 79 = .ok (.iload_n 2, 1) := by decide +kernel
theorem dX10_add_80 : decode cX10_add 80 = .ok (.invokevirtual 105, 3) := by decide +kernel
theorem dX10_add_83 : decode cX10_add 83 = .ok (.iconst (-1), 1) := by decide +kernel
theorem dX10_add_84 : decode cX10_add 84 = .ok (.if_icmp .ne 6, 3) := by decide +kernel
theorem dX10_add_87 : decode cX10_add 87 = .ok (.bipush (-4), 2) := by decide +kernel
theorem dX10_add_89 : decode cX10_add 89 = .ok (.ireturn, 1) := by decide +kernel
theorem dX10_add_90 : decode cX10_add 90 = .ok (.iload_n 3, 1) := by decide +kernel
theorem dX10_add_91 : decode cX10_add 91 = .ok (.bipush 6, 2) := by decide +kernel
theorem dX10_add_93 : decode cX10_add 93 = .ok (.if_icmp .ne 6, 3) := by decide +kernel
theorem dX10_add_96 : decode cX10_add 96 = .ok (.bipush (-5), 2) := by decide +kernel
theorem dX10_add_98 : decode cX10_add 98 = .ok (.ireturn, 1) := by decide +kernel
theorem dX10_add_99 : decode cX10_add 99 = .ok (.aload_n 0, 1) := by decide +kernel
theorem dX10_add_100 : decode cX10_add 100 = .ok (.getfield 66, 3) := by decide +kernel
theorem dX10_add_103 : decode cX10_add 103 = .ok (.bipush 6, 2) := by decide +kernel
theorem dX10_add_105 : decode cX10_add 105 = .ok (.iload_n 1, 1) := by decide +kernel
theorem dX10_add_106 : decode cX10_add 106 = .ok (.imul, 1) := by decide +kernel
theorem dX10_add_107 : decode cX10_add 107 = .ok (.iload_n 3, 1) := by decide +kernel
theorem dX10_add_108 : decode cX10_add 108 = .ok (.iadd, 1) := by decide +kernel
theorem dX10_add_109 : decode cX10_add 109 = .ok (.iload_n 2, 1) := by decide +kernel
theorem dX10_add_110 : decode cX10_add 110 = .ok (.iastore, 1) := by decide +kernel
theorem dX10_add_111 : decode cX10_add 111 = .ok (.aload_n 0, 1) := by decide +kernel
theorem dX10_add_112 : decode cX10_add 112 = .ok (.getfield 63, 3) := by decide +kernel
theorem dX10_add_115 : decode cX10_add 115 = .ok (.iload_n 1, 1) := by decide +kernel
theorem dX10_add_116 : decode cX10_add 116 = .ok (.dup2, 1) := by decide +kernel
theorem dX10_add_117 : decode cX10_add 117 = .ok (.iaload, 1) := by decide +kernel
theorem dX10_add_118 : decode cX10_add 118 = .ok (.iconst 1, 1) := by decide +kernel
theorem dX10_add_119 : decode cX10_add 119 = .ok (.iadd, 1) := by decide +kernel
theorem dX10_add_120 : decode cX10_add 120 = .ok (.iastore, 1) := by decide +kernel
theorem dX10_add_121 : decode cX10_add 121 = .ok (.iload_n 3, 1) := by decide +kernel
theorem dX10_add_122 : decode cX10_add 122 = .ok (.iconst 1, 1) := by decide +kernel
theorem dX10_add_123 : decode cX10_add 123 = .ok (.iadd, 1) := by decide +kernel
theorem dX10_add_124 : decode cX10_add 124 = .ok (.ireturn, 1) := by decide +kernel
theorem dX10_isOnRoute_0 : decode cX10_isOnRoute 0 = .ok (.iconst 0, 1) := by decide +kernel
theorem dX10_isOnRoute_1 : decode cX10_isOnRoute 1 = .ok (.istore_n 2, 1) := by decide +kernel
theorem dX10_isOnRoute_2 : decode cX10_isOnRoute 2 = .ok (.iconst 0, 1) := by decide +kernel
theorem dX10_isOnRoute_3 : decode cX10_isOnRoute 3 = .ok (.istore_n 3, 1) := by decide +kernel
theorem dX10_isOnRoute_4 : decode cX10_isOnRoute 4 = .ok (.iload_n 3, 1) := by decide +kernel
theorem dX10_isOnRoute_5 : decode cX10_isOnRoute 5 = .ok (.aload_n 0, 1) := by decide +kernel
theorem dX10_isOnRoute_6 : decode cX10_isOnRoute 6 = .ok (.getfield 162, 3) := by decide +kernel
theorem dX10_isOnRoute_9 : decode cX10_isOnRoute 9 = .ok (.if_icmp .ge 29, 3) := by decide +kernel
theorem dX10_isOnRoute_12 : decode cX10_isOnRoute 12 = .ok (.iload_n 2, 1) := by decide +kernel
theorem dX10_isOnRoute_13 : decode cX10_isOnRoute 13 = .ok (.ifCond .ne 13, 3) := by decide +kernel
theorem dX10_isOnRoute_16 : decode cX10_isOnRoute 16 = .ok (.aload_n 0, 1) := by decide +kernel
theorem dX10_isOnRoute_17 : decode cX10_isOnRoute 17 = .ok (.getfield 60, 3) := by decide +kernel
theorem dX10_isOnRoute_20 : decode cX10_isOnRoute 20 = .ok (.iload_n 3, 1) := by decide +kernel
theorem dX10_isOnRoute_21 : decode cX10_isOnRoute 21 = .ok (.iaload, 1) := by decide +kernel
theorem dX10_isOnRoute_22 : decode cX10_isOnRoute 22 = .ok (.iload_n 1, 1) := by decide +kernel
theorem dX10_isOnRoute_23 : decode cX10_isOnRoute 23 = .ok (.if_icmp .ne 7, 3) := by decide +kernel
theorem dX10_isOnRoute_26 : decode cX10_isOnRoute 26 = .ok (.iconst 1, 1) := by decide +kernel
theorem dX10_isOnRoute_27 : decode cX10_isOnRoute 27 = .ok (.goto 4, 3) := by decide +kernel
theorem dX10_isOnRoute_30 : decode cX10_isOnRoute 30 = .ok (.iconst 0, 1) := by decide +kernel
theorem dX10_isOnRoute_31 : decode cX10_isOnRoute 31 = .ok (.istore_n 2, 1) := by decide +kernel
theorem dX10_isOnRoute_32 : decode cX10_isOnRoute 32 = .ok (.iinc 3 1, 3) := by decide +kernel
theorem dX10_isOnRoute_35 : decode cX10_isOnRoute 35 = .ok (.goto (-31), 3) := by decide +kernel
theorem dX10_isOnRoute_38 : decode cX10_isOnRoute 38 = .ok (.iload_n 2, 1) := by decide +kernel
theorem dX10_isOnRoute_39 : decode cX10_isOnRoute 39 = .ok (.ireturn, 1) := by decide +kernel
theorem dX10_doCross_0 : decode cX10_doCross 0 = .ok (.iconst 0, 1) := by decide +kernel
theorem dX10_doCross_1 : decode cX10_doCross 1 = .ok (.istore_n 3, 1) := by decide +kernel
theorem dX10_doCross_2 : decode cX10_doCross 2 = .ok (.iconst 0, 1) := by decide +kernel
theorem dX10_doCross_3 : decode cX10_doCross 3 = .ok (.istore 4, 2) := by decide +kernel
theorem dX10_doCross_5 : decode cX10_doCross 5 = .ok (.iload 4, 2) := by decide +kernel
theorem dX10_doCross_7 : decode cX10_doCross 7 = .ok (.aload_n 0, 1) := by decide +kernel
theorem dX10_doCross_8 : decode cX10_doCross 8 = .ok (.getfield 63, 3) := by decide +kernel
theorem dX10_doCross_11 : decode cX10_doCross 11 = .ok (.iload_n 1, 1) := by decide +kernel
theorem dX10_doCross_12 : decode cX10_doCross 12 = .ok (.iaload, 1) := by decide +kernel
theorem dX10_doCross_13 : decode cX10_doCross 13 = .ok (.if_icmp .ge 76, 3) := by decide +kernel
theorem dX10_doCross_16 : decode cX10_doCross 16 = .ok (.iconst 0, 1) := by decide +kernel
theorem dX10_doCross_17 : decode cX10_doCross 17 = .ok (.istore 5, 2) := by decide +kernel
theorem dX10_doCross_19 : decode cX10_doCross 19 = .ok (.iload 5, 2) := by decide +kernel
theorem dX10_doCross_21 : decode cX10_doCross 21 = .ok (.aload_n 0, 1) := by decide +kernel
theorem dX10_doCross_22 : decode cX10_doCross 22 = .ok (.getfield 63, 3) := by decide +kernel
theorem dX10_doCross_25 : decode cX10_doCross 25 = .ok (.iload_n 2, 1) := by decide +kernel
theorem dX10_doCross_26 : decode cX10_doCross 26 = .ok (.iaload, 1) := by decide +kernel
theorem dX10_doCross_27 : decode cX10_doCross 27 = .ok (.if_icmp .ge 56, 3) := by decide +kernel
theorem dX10_doCross_30 : decode cX10_doCross 30 = .ok (.iload_n 3, 1) := by decide +kernel
theorem dX10_doCross_31 : decode cX10_doCross 31 = .ok (.ifCond .ne 40, 3) := by decide +kernel
theorem dX10_doCross_34 : decode cX10_doCross 34 = .ok (.aload_n 0, 1) := by decide +kernel
theorem dX10_doCross_35 : decode cX10_doCross 35 = .ok (.getfield 66, 3) := by decide +kernel
theorem dX10_doCross_38 : decode cX10_doCross 38 = .ok (.bipush 6, 2) := by decide +kernel
theorem dX10_doCross_40 : decode cX10_doCross 40 = .ok (.iload_n 1, 1) := by decide +kernel
theorem dX10_doCross_41 : decode cX10_doCross 41 = .ok (.imul, 1) := by decide +kernel
theorem dX10_doCross_42 : decode cX10_doCross 42 = .ok (.iload 4, 2) := by decide +kernel
theorem dX10_doCross_44 : decode cX10_doCross 44 = .ok (.iadd, 1) := by decide +kernel
theorem dX10_doCross_45 : decode cX10_doCross 45 = .ok (.iaload, 1) := by decide +kernel
theorem dX10_doCross_46 : decode cX10_doCross 46 = .ok (.aload_n 0, 1) := by decide +kernel
theorem dX10_doCross_47 : decode cX10_doCross 47 = .ok (.getfield 66, 3) := by decide +kernel
theorem dX10_doCross_50 : decode cX10_doCross 50 = .ok (.bipush 6, 2) := by decide +kernel
theorem dX10_doCross_52 : decode cX10_doCross 52 = .ok (.iload_n 2, 1) := by decide +kernel
theorem dX10_doCross_53 : decode cX10_doCross 53 = .ok (.imul, 1) := by decide +kernel
theorem dX10_doCross_54 : decode cX10_doCross 54 = .ok (.iload 5, 2) := by decide +kernel
theorem dX10_doCross_56 : decode cX10_doCross 56 = .ok (.iadd, 1) := by decide +kernel
theorem dX10_doCross_57 : decode cX10_doCross 57 = .ok (.iaload, 1) := by decide +kernel
theorem dX10_doCross_58 : decode cX10_doCross 58 = .ok (.if_icmp .ne 17, 3) := by decide +kernel
theorem dX10_doCross_61 : decode cX10_doCross 61 = .ok (.iload 4, 2) := by decide +kernel
theorem dX10_doCross_63 : decode cX10_doCross 63 = .ok (.ifCond .gt 8, 3) := by decide +kernel
theorem dX10_doCross_66 : decode cX10_doCross 66 = .ok (.iload 5, 2) := by decide +kernel
theorem dX10_doCross_68 : decode cX10_doCross 68 = .ok (.ifCond .le 7, 3) := by decide +kernel
theorem dX10_doCross_71 : decode cX10_doCross 71 = .ok (.iconst 1, 1) := by decide +kernel
theorem dX10_doCross_72 : decode cX10_doCross 72 = .ok (.goto 4, 3) := by decide +kernel
theorem dX10_doCross_75 : decode cX10_doCross 75 = .ok (.iconst 0, 1) := by decide +kernel
theorem dX10_doCross_76 : decode cX10_doCross 76 = .ok (.istore_n 3, 1) := by decide +kernel
theorem dX10_doCross_77 : decode cX10_doCross 77 = .ok (.iinc 5 1, 3) := by decide +kernel
theorem dX10_doCross_80 : decode cX10_doCross 80 = .ok (.goto (-61), 3) := by decide +kernel
theorem dX10_doCross_83 : decode cX10_doCross 83 = .ok (.iinc 4 1, 3) := by decide +kernel
theorem dX10_doCross_86 : decode cX10_doCross 86 = .ok (.goto (-81), 3) := by decide +kernel
theorem dX10_doCross_89 : decode cX10_doCross 89 = .ok (.iload_n 3, 1) := by decide +kernel
theorem dX10_doCross_90 : decode cX10_doCross 90 = .ok (.ireturn, 1) := by decide +kernel
theorem dX10_breaks_0 : decode cX10_breaks 0 = .ok (.iload_n 1, 1) := by decide +kernel
theorem dX10_breaks_1 : decode cX10_breaks 1 = .ok (.iconst 0, 1) := by decide +kernel
theorem dX10_breaks_2 : decode cX10_breaks 2 = .ok (.aload_n 0, 1) := by decide +kernel
theorem dX10_breaks_3 : decode cX10_breaks 3 = .ok (.getfield 171, 3) := by decide +kernel
theorem dX10_breaks_6 : decode cX10_breaks 6 = .ok (.iconst 1, 1) := by decide +kernel
theorem dX10_breaks_7 : decode cX10_breaks 7 = .ok (.isub, 1) := by decide +kernel
theorem dX10_breaks_8 : decode cX10_breaks 8 = .ok (.invokestatic 90, 3) := by decide +kernel
theorem dX10_breaks_11 : decode cX10_breaks 11 = .ok (.ifCond .ne 6, 3) := by decide +kernel
theorem dX10_breaks_14 : decode cX10_breaks 14 = .ok (.bipush (-2), 2) := by decide +kernel
theorem dX10_breaks_16 : decode cX10_breaks 16 = .ok (.ireturn, 1) := by decide +kernel
theorem dX10_breaks_17 : decode cX10_breaks 17 = .ok (.aload_n 0, 1) := by decide +kernel
theorem dX10_breaks_18 : decode cX10_breaks 18 = .ok (.getfield 69, 3) := by decide +kernel
theorem dX10_breaks_21 : decode cX10_breaks 21 = .ok (.iload_n 1, 1) := by decide +kernel
theorem dX10_breaks_22 : decode cX10_breaks 22 = .ok (.baload, 1) := by decide +kernel
theorem dX10_breaks_23 : decode cX10_breaks 23 = .ok (.ifCond .ne 5, 3) := by decide +kernel
theorem dX10_breaks_26 : decode cX10_breaks 26 = .ok (.iconst 0, 1) := by decide +kernel
theorem dX10_breaks_27 : decode cX10_breaks 27 = .ok (.ireturn, 1) := by decide +kernel
theorem dX10_breaks_28 : decode cX10_breaks 28 = .ok (.aload_n 0, 1) := by decide +kernel
theorem dX10_breaks_29 : decode cX10_breaks 29 = .ok (.aload_n 0, 1) := by decide +kernel
theorem dX10_breaks_30 : decode cX10_breaks 30 = .ok (.getfield 66, 3) := by decide +kernel
theorem dX10_breaks_33 : decode cX10_breaks 33 = .ok (.bipush 6, 2) := by decide +kernel
theorem dX10_breaks_35 : decode cX10_breaks 35 = .ok (.iload_n 1, 1) := by decide +kernel
theorem dX10_breaks_36 : decode cX10_breaks 36 = .ok (.imul, 1) := by decide +kernel
theorem dX10_breaks_37 : decode cX10_breaks 37 = .ok (.iaload, 1) := by decide +kernel
theorem dX10_breaks_38 : decode cX10_breaks 38 = .ok (.invokevirtual 174, 3) := by decide +kernel
theorem dX10_breaks_41 : decode cX10_breaks 41 = .ok (.ifCond .eq 7, 3) := by decide +kernel
theorem dX10_breaks_44 : decode cX10_breaks 44 = .ok (.iconst 0, 1) := by decide +kernel
theorem dX10_breaks_45 : decode cX10_breaks 45 = .ok (.goto 4, 3) := by decide +kernel
theorem dX10_breaks_48 : decode cX10_breaks 48 = .ok (.iconst 1, 1) := by decide +kernel
theorem dX10_breaks_49 : decode cX10_breaks 49 = .ok (.istore_n 2, 1) := by decide +kernel
theorem dX10_breaks_50 : decode cX10_breaks 50 = .ok (.iconst 0, 1) := by decide +kernel
theorem dX10_breaks_51 : decode cX10_breaks 51 = .ok (.istore_n 3, 1) := by decide +kernel
theorem dX10_breaks_52 : decode cX10_breaks 52 = .ok (.iconst 1, 1) := by decide +kernel
theorem dX10_breaks_53 : decode cX10_breaks 53 = .ok (.istore 4, 2) := by decide +kernel
theorem dX10_breaks_55 : decode cX10_breaks 55 = .ok (.iload 4, 2) := by decide +kernel
theorem dX10_breaks_57 : decode cX10_breaks 57 = .ok (.aload_n 0, 1) := by decide +kernel
theorem dX10_breaks_58 : decode cX10_breaks 58 = .ok (.getfield 63, 3) := by decide +kernel
theorem dX10_breaks_61 : decode cX10_breaks 61 = .ok (.iload_n 1, 1) := by decide +kernel
theorem dX10_breaks_62 : decode cX10_breaks 62 = .ok (.iaload, 1) := by decide +kernel
theorem dX10_breaks_63 : decode cX10_breaks 63 = .ok (.if_icmp .ge 74, 3) := by decide +kernel
theorem dX10_breaks_66 : decode cX10_breaks 66 = .ok (.iload_n 2, 1) := by decide +kernel
theorem dX10_breaks_67 : decode cX10_breaks 67 = .ok (.aload_n 0, 1) := by decide +kernel
theorem dX10_breaks_68 : decode cX10_breaks 68 = .ok (.aload_n 0, 1) := by decide +kernel
theorem dX10_breaks_69 : decode cX10_breaks 69 = .ok (.getfield 66, 3) := by decide +kernel
theorem dX10_breaks_72 : decode cX10_breaks 72 = .ok (.bipush 6, 2) := by decide +kernel
theorem dX10_breaks_74 : decode cX10_breaks 74 = .ok (.iload_n 1, 1) := by decide +kernel
theorem dX10_breaks_75 : decode cX10_breaks 75 = .ok (.imul, 1) := by decide +kernel
theorem dX10_breaks_76 : decode cX10_breaks 76 = .ok (.iload 4, 2) := by decide +kernel
theorem dX10_breaks_78 : decode cX10_breaks 78 = .ok (.iadd, 1) := by decide +kernel
theorem dX10_breaks_79 : decode cX10_breaks 79 = .ok (.iaload, 1) := by decide +kernel
theorem dX10_breaks_80 : decode cX10_breaks 80 = .ok (.invokevirtual 174, 3) := by decide +kernel
theorem dX10_breaks_83 : decode cX10_breaks 83 = .ok (.ifCond .eq 7, 3) := by decide +kernel
theorem dX10_breaks_86 : decode cX10_breaks 86 = .ok (.iconst 2, 1) := by decide +kernel
theorem dX10_breaks_87 : decode cX10_breaks 87 = .ok (.goto 4, 3) := by decide +kernel
theorem dX10_breaks_90 : decode cX10_breaks 90 = .ok (.iconst 0, 1) := by decide +kernel
theorem dX10_breaks_91 : decode cX10_breaks 91 = .ok (.ior, 1) := by decide +kernel
theorem dX10_breaks_92 : decode cX10_breaks 92 = .ok (.istore_n 2, 1) := by decide +kernel
theorem dX10_breaks_93 : decode cX10_breaks 93 = .ok (.iload_n 3, 1) := by decide +kernel
theorem dX10_breaks_94 : decode cX10_breaks 94 = .ok (.aload_n 0, 1) := by decide +kernel
theorem dX10_breaks_95 : decode cX10_breaks 95 = .ok (.getfield 16, 3) := by decide +kernel
theorem dX10_breaks_98 : decode cX10_breaks 98 = .ok (.aload_n 0, 1) := by decide +kernel
theorem dX10_breaks_99 : decode cX10_breaks 99 = .ok (.aload_n 0, 1) := by decide +kernel
theorem dX10_breaks_100 : decode cX10_breaks 100 = .ok (.getfield 66, 3) := by decide +kernel
theorem dX10_breaks_103 : decode cX10_breaks 103 = .ok (.bipush 6, 2) := by decide +kernel
theorem dX10_breaks_105 : decode cX10_breaks 105 = .ok (.iload_n 1, 1) := by decide +kernel
theorem dX10_breaks_106 : decode cX10_breaks 106 = .ok (.imul, 1) := by decide +kernel
theorem dX10_breaks_107 : decode cX10_breaks 107 = .ok (.iload 4, 2) := by decide +kernel
theorem dX10_breaks_109 : decode cX10_breaks 109 = .ok (.iadd, 1) := by decide +kernel
theorem dX10_breaks_110 : decode cX10_breaks 110 = .ok (.iconst 1, 1) := by decide +kernel
theorem dX10_breaks_111 : decode cX10_breaks 111 = .ok (.isub, 1) := by decide +kernel
theorem dX10_breaks_112 : decode cX10_breaks 112 = .ok (.iaload, 1) := by decide +kernel
theorem dX10_breaks_113 : decode cX10_breaks 113 = .ok (.aload_n 0, 1) := by decide +kernel
theorem dX10_breaks_114 : decode cX10_breaks 114 = .ok (.getfield 66, 3) := by decide +kernel
theorem dX10_breaks_117 : decode cX10_breaks 117 = .ok (.bipush 6, 2) := by decide +kernel
theorem dX10_breaks_119 : decode cX10_breaks 119 = .ok (.iload_n 1, 1) := by decide +kernel
theorem dX10_breaks_120 : decode cX10_breaks 120 = .ok (.imul, 1) := by decide +kernel
theorem dX10_breaks_121 : decode cX10_breaks 121 = .ok (.iload 4, 2) := by decide +kernel
theorem dX10_breaks_123 : decode cX10_breaks 123 = .ok (.iadd, 1) := by decide +kernel
theorem dX10_breaks_124 : decode cX10_breaks 124 = .ok (.iaload, 1) := by decide +kernel
theorem dX10_breaks_125 : decode cX10_breaks 125 = .ok (.invokevirtual 105, 3) := by decide +kernel
theorem dX10_breaks_128 : decode cX10_breaks 128 = .ok (.iaload, 1) := by decide +kernel
theorem dX10_breaks_129 : decode cX10_breaks 129 = .ok (.iadd, 1) := by decide +kernel
theorem dX10_breaks_130 : decode cX10_breaks 130 = .ok (.istore_n 3, 1) := by decide +kernel
theorem dX10_breaks_131 : decode cX10_breaks 131 = .ok (.iinc 4 1, 3) := by decide +kernel
theorem dX10_breaks_134 : decode cX10_breaks 134 = .ok (.goto (-79), 3) := by decide +kernel
theorem dX10_breaks_137 : decode cX10_breaks 137 = .ok (.iload_n 2, 1) := by decide +kernel
theorem dX10_breaks_138 : decode cX10_breaks 138 = .ok (.iload_n 3, 1) := by decide +kernel
theorem dX10_breaks_139 : decode cX10_breaks 139 = .ok (.aload_n 0, 1) := by decide +kernel
theorem dX10_breaks_140 : decode cX10_breaks 140 = .ok (.getfield 44, 3) := by decide +kernel
theorem dX10_breaks_143 : decode cX10_breaks 143 = .ok (.if_icmp .le 7, 3) := by decide +kernel
theorem dX10_breaks_146 : decode cX10_breaks 146 = .ok (.iconst 4, 1) := by decide +kernel
theorem dX10_breaks_147 : decode cX10_breaks 147 = .ok (.goto 4, 3) := by decide +kernel
theorem dX10_breaks_150 : decode cX10_breaks 150 = .ok (.iconst 0, 1) := by decide +kernel
theorem dX10_breaks_151 : decode cX10_breaks 151 = .ok (.ior, 1) := by decide +kernel
theorem dX10_breaks_152 : decode cX10_breaks 152 = .ok (.istore_n 2, 1) := by decide +kernel
theorem dX10_breaks_153 : decode cX10_breaks 153 = .ok (.iconst 0, 1) := by decide +kernel
theorem dX10_breaks_154 : decode cX10_breaks 154 = .ok (.istore 4, 2) := by decide +kernel
theorem dX10_breaks_156 : decode cX10_breaks 156 = .ok (.iload 4, 2) := by decide +kernel
theorem dX10_breaks_158 : decode cX10_breaks 158 = .ok (.aload_n 0, 1) := by decide +kernel
theorem dX10_breaks_159 : decode cX10_breaks 159 = .ok (.getfield 171, 3) := by decide +kernel
theorem dX10_breaks_162 : decode cX10_breaks 162 = .ok (.if_icmp .ge 44, 3) := by decide +kernel
theorem dX10_breaks_165 : decode cX10_breaks 165 = .ok (.iload_n 2, 1) := by decide +kernel
theorem dX10_breaks_166 : decode cX10_breaks 166 = .ok (.iload 4, 2) := by decide +kernel
theorem dX10_breaks_168 : decode cX10_breaks 168 = .ok (.iload_n 1, 1) := by decide +kernel
theorem dX10_breaks_169 : decode cX10_breaks 169 = .ok (.if_icmp .eq 28, 3) := by decide +kernel
theorem dX10_breaks_172 : decode cX10_breaks 172 = .ok (.aload_n 0, 1) := by decide +kernel
theorem dX10_breaks_173 : decode cX10_breaks 173 = .ok (.getfield 69, 3) := by decide +kernel
theorem dX10_breaks_176 : decode cX10_breaks 176 = .ok (.iload 4, 2) := by decide +kernel
theorem dX10_breaks_178 : decode cX10_breaks 178 = .ok (.baload, 1) := by decide +kernel
theorem dX10_breaks_179 : decode cX10_breaks 179 = .ok (.ifCond .eq 18, 3) := by decide +kernel
theorem dX10_breaks_182 : decode cX10_breaks 182 = .ok (.aload_n 0, 1) := by decide +kernel
theorem dX10_breaks_183 : decode cX10_breaks 183 = .ok (.iload_n 1, 1) := by decide +kernel
theorem dX10_breaks_184 : decode cX10_breaks 184 = .ok (.iload 4, 2) := by decide +kernel
theorem dX10_breaks_186 : decode cX10_breaks 186 = .ok (.invokevirtual 177, 3) := by decide +kernel
theorem dX10_breaks_189 : decode cX10_breaks 189 = .ok (.ifCond .eq 8, 3) := by decide +kernel
theorem dX10_breaks_192 : decode cX10_breaks 192 = .ok (.bipush 8, 2) := by decide +kernel
theorem dX10_breaks_194 : decode cX10_breaks 194 = .ok (.goto 4, 3) := by decide +kernel
theorem dX10_breaks_197 : decode cX10_breaks 197 = .ok (.iconst 0, 1) := by decide +kernel
theorem dX10_breaks_198 : decode cX10_breaks 198 = .ok (.ior, 1) := by decide +kernel
theorem dX10_breaks_199 : decode cX10_breaks 199 = .ok (.istore_n 2, 1) := by decide +kernel
theorem dX10_breaks_200 : decode cX10_breaks 200 = .ok (.iinc 4 1, 3) := by decide +kernel
theorem dX10_breaks_203 : decode cX10_breaks 203 = .ok (.goto (-47), 3) := by decide +kernel
theorem dX10_breaks_206 : decode cX10_breaks 206 = .ok (.iload_n 2, 1) := by decide +kernel
theorem dX10_breaks_207 : decode cX10_breaks 207 = .ok (.ireturn, 1) := by decide +kernel
theorem dX10_branch_0 : decode cX10_branch 0 = .ok (.iload_n 1, 1) := by decide +kernel
theorem dX10_branch_1 : decode cX10_branch 1 = .ok (.iconst 1, 1) := by decide +kernel
theorem dX10_branch_2 : decode cX10_branch 2 = .ok (.bipush 20, 2) := by decide +kernel
theorem dX10_branch_4 : decode cX10_branch 4 = .ok (.invokestatic 90, 3) := by decide +kernel
theorem dX10_branch_7 : decode cX10_branch 7 = .ok (.ifCond .ne 6, 3) := by decide +kernel
theorem dX10_branch_10 : decode cX10_branch 10 = .ok (.bipush (-3), 2) := by decide +kernel
theorem dX10_branch_12 : decode cX10_branch 12 = .ok (.ireturn, 1) := by decide +kernel
theorem dX10_branch_13 : decode cX10_branch 13 = .ok (.aload_n 0, 1) := by decide +kernel
theorem dX10_branch_14 : decode cX10_branch 14 = .ok (.getfield 180, 3) := by decide +kernel
theorem dX10_branch_17 : decode cX10_branch 17 = .ok (.iconst 5, 1) := by decide +kernel
theorem dX10_branch_18 : decode cX10_branch 18 = .ok (.if_icmp .ne 6, 3) := by decide +kernel
theorem dX10_branch_21 : decode cX10_branch 21 = .ok (.bipush (-5), 2) := by decide +kernel
theorem dX10_branch_23 : decode cX10_branch 23 = .ok (.ireturn, 1) := by decide +kernel
theorem dX10_branch_24 : decode cX10_branch 24 = .ok (.aload_n 0, 1) := by decide +kernel
theorem dX10_branch_25 : decode cX10_branch 25 = .ok (.getfield 72, 3) := by decide +kernel
theorem dX10_branch_28 : decode cX10_branch 28 = .ok (.aload_n 0, 1) := by decide +kernel
theorem dX10_branch_29 : decode cX10_branch 29 = .ok (.getfield 180, 3) := by decide +kernel
theorem dX10_branch_32 : decode cX10_branch 32 = .ok (.iload_n 1, 1) := by decide +kernel
theorem dX10_branch_33 : decode cX10_branch 33 = .ok (.iastore, 1) := by decide +kernel
theorem dX10_branch_34 : decode cX10_branch 34 = .ok (.aload_n 0, 1) := by decide +kernel
theorem dX10_branch_35 : decode cX10_branch 35 = .ok (.dup, 1) := by decide +kernel
theorem dX10_branch_36 : decode cX10_branch 36 = .ok (.getfield 180, 3) := by decide +kernel
theorem dX10_branch_39 : decode cX10_branch 39 = .ok (.iconst 1, 1) := by decide +kernel
theorem dX10_branch_40 : decode cX10_branch 40 = .ok (.iadd, 1) := by decide +kernel
theorem dX10_branch_41 : decode cX10_branch 41 = .ok (.putfield 180, 3) := by decide +kernel
theorem dX10_branch_44 : decode cX10_branch 44 = .ok (.aload_n 0, 1) := by decide +kernel
theorem dX10_branch_45 : decode cX10_branch 45 = .ok (.getfield 180, 3) := by decide +kernel
theorem dX10_branch_48 : decode cX10_branch 48 = .ok (.ireturn, 1) := by decide +kernel
theorem dX10_unbranch_0 : decode cX10_unbranch 0 = .ok (.aload_n 0, 1) := by decide +kernel
theorem dX10_unbranch_1 : decode cX10_unbranch 1 = .ok (.getfield 180, 3) := by decide +kernel
theorem dX10_unbranch_4 : decode cX10_unbranch 4 = .ok (.istore_n 1, 1) := by decide +kernel
theorem dX10_unbranch_5 : decode cX10_unbranch 5 = .ok (.aload_n 0, 1) := by decide +kernel
theorem dX10_unbranch_6 : decode cX10_unbranch 6 = .ok (.iconst 0, 1) := by decide +kernel
theorem dX10_unbranch_7 : decode cX10_unbranch 7 = .ok (.putfield 180, 3) := by decide +kernel
theorem dX10_unbranch_10 : decode cX10_unbranch 10 = .ok (.iload_n 1, 1) := by decide +kernel
theorem dX10_unbranch_11 : decode cX10_unbranch 11 = .ok (.ireturn, 1) := by decide +kernel
theorem dX10_houndOf_0 : decode cX10_houndOf 0 = .ok (.iload_n 1, 1) := by decide +kernel
theorem dX10_houndOf_1 : decode cX10_houndOf 1 = .ok (.istore 4, 2) := by decide +kernel
theorem dX10_houndOf_3 : decode cX10_houndOf 3 = .ok (.aload_n 0, 1) := by decide +kernel
theorem dX10_houndOf_4 : decode cX10_houndOf 4 = .ok (.getfield 180, 3) := by decide +kernel
theorem dX10_houndOf_7 : decode cX10_houndOf 7 = .ok (.iconst 1, 1) := by decide +kernel
theorem dX10_houndOf_8 : decode cX10_houndOf 8 = .ok (.isub, 1) := by decide +kernel
theorem dX10_houndOf_9 : decode cX10_houndOf 9 = .ok (.istore 5, 2) := by decide +kernel
theorem dX10_houndOf_11 : decode cX10_houndOf 11 = .ok (.iload 5, 2) := by decide +kernel
theorem dX10_houndOf_13 : decode cX10_houndOf 13 = .ok (.iload_n 3, 1) := by decide +kernel
theorem dX10_houndOf_14 : decode cX10_houndOf 14 = .ok (.if_icmp .le 15, 3) := by decide +kernel
theorem dX10_houndOf_17 : decode cX10_houndOf 17 = .ok (.iload 4, 2) := by decide +kernel
theorem dX10_houndOf_19 : decode cX10_houndOf 19 = .ok (.iload_n 2, 1) := by decide +kernel
theorem dX10_houndOf_20 : decode cX10_houndOf 20 = .ok (.idiv, 1) := by decide +kernel
theorem dX10_houndOf_21 : decode cX10_houndOf 21 = .ok (.istore 4, 2) := by decide +kernel
theorem dX10_houndOf_23 : decode cX10_houndOf 23 = .ok (.iinc 5 (-1), 3) := by decide +kernel
theorem dX10_houndOf_26 : decode cX10_houndOf 26 = .ok (.goto (-15), 3) := by decide +kernel
theorem dX10_houndOf_29 : decode cX10_houndOf 29 = .ok (.iload 4, 2) := by decide +kernel
theorem dX10_houndOf_31 : decode cX10_houndOf 31 = .ok (.iload_n 2, 1) := by decide +kernel
theorem dX10_houndOf_32 : decode cX10_houndOf 32 = .ok (.irem, 1) := by decide +kernel
theorem dX10_houndOf_33 : decode cX10_houndOf 33 = .ok (.ireturn, 1) := by decide +kernel
theorem dX10_foundAt_0 : decode cX10_foundAt 0 = .ok (.aload_n 0, 1) := by decide +kernel
theorem dX10_foundAt_1 : decode cX10_foundAt 1 = .ok (.getfield 72, 3) := by decide +kernel
theorem dX10_foundAt_4 : decode cX10_foundAt 4 = .ok (.iload_n 3, 1) := by decide +kernel
theorem dX10_foundAt_5 : decode cX10_foundAt 5 = .ok (.iaload, 1) := by decide +kernel
theorem dX10_foundAt_6 : decode cX10_foundAt 6 = .ok (.istore 4, 2) := by decide +kernel
theorem dX10_foundAt_8 : decode cX10_foundAt 8 = .ok (.iconst 0, 1) := by decide +kernel
theorem dX10_foundAt_9 : decode cX10_foundAt 9 = .ok (.istore 5, 2) := by decide +kernel
theorem dX10_foundAt_11 : decode cX10_foundAt 11 = .ok (.iload 5, 2) := by decide +kernel
theorem dX10_foundAt_13 : decode cX10_foundAt 13 = .ok (.aload_n 0, 1) := by decide +kernel
theorem dX10_foundAt_14 : decode cX10_foundAt 14 = .ok (.getfield 180, 3) := by decide +kernel
theorem dX10_foundAt_17 : decode cX10_foundAt 17 = .ok (.if_icmp .ge 95, 3) := by decide +kernel
theorem dX10_foundAt_20 : decode cX10_foundAt 20 = .ok (.aload_n 0, 1) := by decide +kernel
theorem dX10_foundAt_21 : decode cX10_foundAt 21 = .ok (.getfield 72, 3) := by decide +kernel
theorem dX10_foundAt_24 : decode cX10_foundAt 24 = .ok (.iload 5, 2) := by decide +kernel
theorem dX10_foundAt_26 : decode cX10_foundAt 26 = .ok (.iaload, 1) := by decide +kernel
theorem dX10_foundAt_27 : decode cX10_foundAt 27 = .ok (.aload_n 0, 1) := by decide +kernel
theorem dX10_foundAt_28 : decode cX10_foundAt 28 = .ok (.getfield 72, 3) := by decide +kernel
theorem dX10_foundAt_31 : decode cX10_foundAt 31 = .ok (.iload_n 3, 1) := by decide +kernel
theorem dX10_foundAt_32 : decode cX10_foundAt 32 = .ok (.iaload, 1) := by decide +kernel
theorem dX10_foundAt_33 : decode cX10_foundAt 33 = .ok (.if_icmp .lt 25, 3) := by decide +kernel
theorem dX10_foundAt_36 : decode cX10_foundAt 36 = .ok (.aload_n 0, 1) := by decide +kernel
theorem dX10_foundAt_37 : decode cX10_foundAt 37 = .ok (.getfield 72, 3) := by decide +kernel
theorem dX10_foundAt_40 : decode cX10_foundAt 40 = .ok (.iload 5, 2) := by decide +kernel
theorem dX10_foundAt_42 : decode cX10_foundAt 42 = .ok (.iaload, 1) := by decide +kernel
theorem dX10_foundAt_43 : decode cX10_foundAt 43 = .ok (.aload_n 0, 1) := by decide +kernel
theorem dX10_foundAt_44 : decode cX10_foundAt 44 = .ok (.getfield 72, 3) := by decide +kernel
theorem dX10_foundAt_47 : decode cX10_foundAt 47 = .ok (.iload_n 3, 1) := by decide +kernel
theorem dX10_foundAt_48 : decode cX10_foundAt 48 = .ok (.iaload, 1) := by decide +kernel
theorem dX10_foundAt_49 : decode cX10_foundAt 49 = .ok (.if_icmp .ne 13, 3) := by decide +kernel
theorem dX10_foundAt_52 : decode cX10_foundAt 52 = .ok (.iload 5, 2) := by decide +kernel
theorem dX10_foundAt_54 : decode cX10_foundAt 54 = .ok (.iload_n 3, 1) := by decide +kernel
theorem dX10_foundAt_55 : decode cX10_foundAt 55 = .ok (.if_icmp .ge 7, 3) := by decide +kernel
theorem dX10_foundAt_58 : decode cX10_foundAt 58 = .ok (.iconst 1, 1) := by decide +kernel
theorem dX10_foundAt_59 : decode cX10_foundAt 59 = .ok (.goto 4, 3) := by decide +kernel
theorem dX10_foundAt_62 : decode cX10_foundAt 62 = .ok (.iconst 0, 1) := by decide +kernel
theorem dX10_foundAt_63 : decode cX10_foundAt 63 = .ok (.istore 6, 2) := by decide +kernel
theorem dX10_foundAt_65 : decode cX10_foundAt 65 = .ok (.iload 4, 2) := by decide +kernel
theorem dX10_foundAt_67 : decode cX10_foundAt 67 = .ok (.iload 6, 2) := by decide +kernel
theorem dX10_foundAt_69 : decode cX10_foundAt 69 = .ok (.ifCond .eq 33, 3) := by decide +kernel
theorem dX10_foundAt_72 : decode cX10_foundAt 72 = .ok (.aload_n 0, 1) := by decide +kernel
theorem dX10_foundAt_73 : decode cX10_foundAt 73 = .ok (.iload_n 1, 1) := by decide +kernel
theorem dX10_foundAt_74 : decode cX10_foundAt 74 = .ok (.iload_n 2, 1) := by decide +kernel
theorem dX10_foundAt_75 : decode cX10_foundAt 75 = .ok (.iload 5, 2) := by decide +kernel
theorem dX10_foundAt_77 : decode cX10_foundAt 77 = .ok (.invokevirtual 183, 3) := by decide +kernel
theorem dX10_foundAt_80 : decode cX10_foundAt 80 = .ok (.aload_n 0, 1) := by decide +kernel
theorem dX10_foundAt_81 : decode cX10_foundAt 81 = .ok (.iload_n 1, 1) := by decide +kernel
theorem dX10_foundAt_82 : decode cX10_foundAt 82 = .ok (.iload_n 2, 1) := by decide +kernel
theorem dX10_foundAt_83 : decode cX10_foundAt 83 = .ok (.iload_n 3, 1) := by decide +kernel
theorem dX10_foundAt_84 : decode cX10_foundAt 84 = .ok (.invokevirtual 183, 3) := by decide +kernel
theorem dX10_foundAt_87 : decode cX10_foundAt 87 = .ok (.if_icmp .ne 15, 3) := by decide +kernel
theorem dX10_foundAt_90 : decode cX10_foundAt 90 = .ok (.iconst 2, 1) := by decide +kernel
theorem dX10_foundAt_91 : decode cX10_foundAt 91 = .ok (.aload_n 0, 1) := by decide +kernel
theorem dX10_foundAt_92 : decode cX10_foundAt 92 = .ok (.getfield 72, 3) := by decide +kernel
theorem dX10_foundAt_95 : decode cX10_foundAt 95 = .ok (.iload 5, 2) := by decide +kernel
theorem dX10_foundAt_97 : decode cX10_foundAt 97 = .ok (.iaload, 1) := by decide +kernel
theorem dX10_foundAt_98 : decode cX10_foundAt 98 = .ok (.imul, 1) := by decide +kernel
theorem dX10_foundAt_99 : decode cX10_foundAt 99 = .ok (.goto 4, 3) := by decide +kernel
theorem dX10_foundAt_102 : decode cX10_foundAt 102 = .ok (.iconst 0, 1) := by decide +kernel
theorem dX10_foundAt_103 : decode cX10_foundAt 103 = .ok (.iadd, 1) := by decide +kernel
theorem dX10_foundAt_104 : decode cX10_foundAt 104 = .ok (.istore 4, 2) := by decide +kernel
theorem dX10_foundAt_106 : decode cX10_foundAt 106 = .ok (.iinc 5 1, 3) := by decide +kernel
theorem dX10_foundAt_109 : decode cX10_foundAt 109 = .ok (.goto (-98), 3) := by decide +kernel
theorem dX10_foundAt_112 : decode cX10_foundAt 112 = .ok (.iload 4, 2) := by decide +kernel
theorem dX10_foundAt_114 : decode cX10_foundAt 114 = .ok (.ireturn, 1) := by decide +kernel
theorem dX10_findSplit_0 : decode cX10_findSplit 0 = .ok (.iconst 1, 1) := by decide +kernel
theorem dX10_findSplit_1 : decode cX10_findSplit 1 = .ok (.istore_n 2, 1) := by decide +kernel
theorem dX10_findSplit_2 : decode cX10_findSplit 2 = .ok (.iconst 0, 1) := by decide +kernel
theorem dX10_findSplit_3 : decode cX10_findSplit 3 = .ok (.istore_n 3, 1) := by decide +kernel
theorem dX10_findSplit_4 : decode cX10_findSplit 4 = .ok (.iload_n 3, 1) := by decide +kernel
theorem dX10_findSplit_5 : decode cX10_findSplit 5 = .ok (.aload_n 0, 1) := by decide +kernel
theorem dX10_findSplit_6 : decode cX10_findSplit 6 = .ok (.getfield 180, 3) := by decide +kernel
theorem dX10_findSplit_9 : decode cX10_findSplit 9 = .ok (.if_icmp .ge 13, 3) := by decide +kernel
theorem dX10_findSplit_12 : decode cX10_findSplit 12 = .ok (.iload_n 2, 1) := by decide +kernel
theorem dX10_findSplit_13 : decode cX10_findSplit 13 = .ok (.iload_n 1, 1) := by decide +kernel
theorem dX10_findSplit_14 : decode cX10_findSplit 14 = .ok (.imul, 1) := by decide +kernel
theorem dX10_findSplit_15 : decode cX10_findSplit 15 = .ok (.istore_n 2, 1) := by decide +kernel
theorem dX10_findSplit_16 : decode cX10_findSplit 16 = .ok (.iinc 3 1, 3) := by decide +kernel
theorem dX10_findSplit_19 : decode cX10_findSplit 19 = .ok (.goto (-15), 3) := by decide +kernel
theorem dX10_findSplit_22 : decode cX10_findSplit 22 = .ok (.iconst 0, 1) := by decide +kernel
theorem dX10_findSplit_23 : decode cX10_findSplit 23 = .ok (.istore_n 3, 1) := by decide +kernel
theorem dX10_findSplit_24 : decode cX10_findSplit 24 = .ok (.aload_n 0, 1) := by decide +kernel
theorem dX10_findSplit_25 : decode cX10_findSplit 25 = .ok (.iconst (-1), 1) := by decide +kernel
theorem dX10_findSplit_26 : decode cX10_findSplit 26 = .ok (.putfield 187, 3) := by decide +kernel
theorem dX10_findSplit_29 : decode cX10_findSplit 29 = .ok (.iconst 0, 1) := by decide +kernel
theorem dX10_findSplit_30 : decode cX10_findSplit 30 = .ok (.istore 4, 2) := by decide +kernel
theorem dX10_findSplit_32 : decode cX10_findSplit 32 = .ok (.iload 4, 2) := by decide +kernel
theorem dX10_findSplit_34 : decode cX10_findSplit 34 = .ok (.iload_n 2, 1) := by decide +kernel
theorem dX10_findSplit_35 : decode cX10_findSplit 35 = .ok (.if_icmp .ge 111, 3) := by decide +kernel
theorem dX10_findSplit_38 : decode cX10_findSplit 38 = .ok (.iconst 0, 1) := by decide +kernel
theorem dX10_findSplit_39 : decode cX10_findSplit 39 = .ok (.istore 5, 2) := by decide +kernel
theorem dX10_findSplit_41 : decode cX10_findSplit 41 = .ok (.iconst 0, 1) := by decide +kernel
theorem dX10_findSplit_42 : decode cX10_findSplit 42 = .ok (.istore 6, 2) := by decide +kernel
theorem dX10_findSplit_44 : decode cX10_findSplit 44 = .ok (.iload 6, 2) := by decide +kernel
theorem dX10_findSplit_46 : decode cX10_findSplit 46 = .ok (.aload_n 0, 1) := by decide +kernel
theorem dX10_findSplit_47 : decode cX10_findSplit 47 = .ok (.getfield 180, 3) := by decide +kernel
theorem dX10_findSplit_50 : decode cX10_findSplit 50 = .ok (.if_icmp .ge 36, 3) := by decide +kernel
theorem dX10_findSplit_53 : decode cX10_findSplit 53 = .ok (.aload_n 0, 1) := by decide +kernel
theorem dX10_findSplit_54 : decode cX10_findSplit 54 = .ok (.iload 4, 2) := by decide +kernel
theorem dX10_findSplit_56 : decode cX10_findSplit 56 = .ok (.iload_n 1, 1) := by decide +kernel
theorem dX10_findSplit_57 : decode cX10_findSplit 57 = .ok (.iload 6, 2) := by decide +kernel
theorem dX10_findSplit_59 : decode cX10_findSplit 59 = .ok (.invokevirtual 190, 3) := by decide +kernel
theorem dX10_findSplit_62 : decode cX10_findSplit 62 = .ok (.istore 7, 2) := by decide +kernel
theorem dX10_findSplit_64 : decode cX10_findSplit 64 = .ok (.iload 7, 2) := by decide +kernel
theorem dX10_findSplit_66 : decode cX10_findSplit 66 = .ok (.iload 5, 2) := by decide +kernel
theorem dX10_findSplit_68 : decode cX10_findSplit 68 = .ok (.if_icmp .le 8, 3) := by decide +kernel
theorem dX10_findSplit_71 : decode cX10_findSplit 71 = .ok (.iload 7, 2) := by decide +kernel
theorem dX10_findSplit_73 : decode cX10_findSplit 73 = .ok (.goto 5, 3) := by decide +kernel
theorem dX10_findSplit_76 : decode cX10_findSplit 76 = .ok (.iload 5, 2) := by decide +kernel
theorem dX10_findSplit_78 : decode cX10_findSplit 78 = .ok (.istore 5, 2) := by decide +kernel
theorem dX10_findSplit_80 : decode cX10_findSplit 80 = .ok (.iinc 6 1, 3) := by decide +kernel
theorem dX10_findSplit_83 : decode cX10_findSplit 83 = .ok (.goto (-39), 3) := by decide +kernel
theorem dX10_findSplit_86 : decode cX10_findSplit 86 = .ok (.aload_n 0, 1) := by decide +kernel
theorem dX10_findSplit_87 : decode cX10_findSplit 87 = .ok (.getfield 187, 3) := by decide +kernel
theorem dX10_findSplit_90 : decode cX10_findSplit 90 = .ok (.iconst (-1), 1) := by decide +kernel
theorem dX10_findSplit_91 : decode cX10_findSplit 91 = .ok (.if_icmp .eq 12, 3) := by decide +kernel
theorem dX10_findSplit_94 : decode cX10_findSplit 94 = .ok (.iload 5, 2) := by decide +kernel
theorem dX10_findSplit_96 : decode cX10_findSplit 96 = .ok (.aload_n 0, 1) := by decide +kernel
theorem dX10_findSplit_97 : decode cX10_findSplit 97 = .ok (.getfield 187, 3) := by decide +kernel
theorem dX10_findSplit_100 : decode cX10_findSplit 100 = .ok (.if_icmp .ge 8, 3) := by decide +kernel
theorem dX10_findSplit_103 : decode cX10_findSplit 103 = .ok (.iload 4, 2) := by decide +kernel
theorem dX10_findSplit_105 : decode cX10_findSplit 105 = .ok (.goto 4, 3) := by decide +kernel
theorem dX10_findSplit_108 : decode cX10_findSplit 108 = .ok (.iload_n 3, 1) := by decide +kernel
theorem dX10_findSplit_109 : decode cX10_findSplit 109 = .ok (.istore_n 3, 1) := by decide +kernel
theorem dX10_findSplit_110 : decode cX10_findSplit 110 = .ok (.aload_n 0, 1) := by decide +kernel
theorem dX10_findSplit_111 : decode cX10_findSplit 111 = .ok (.aload_n 0, 1) := by decide +kernel
theorem dX10_findSplit_112 : decode cX10_findSplit 112 = .ok (.getfield 187, 3) := by decide +kernel
theorem dX10_findSplit_115 : decode cX10_findSplit 115 = .ok (.iconst (-1), 1) := by decide +kernel
theorem dX10_findSplit_116 : decode cX10_findSplit 116 = .ok (.if_icmp .eq 12, 3) := by decide +kernel
theorem dX10_findSplit_119 : decode cX10_findSplit 119 = .ok (.iload 5, 2) := by decide +kernel
theorem dX10_findSplit_121 : decode cX10_findSplit 121 = .ok (.aload_n 0, 1) := by decide +kernel
theorem dX10_findSplit_122 : decode cX10_findSplit 122 = .ok (.getfield 187, 3) := by decide +kernel
theorem dX10_findSplit_125 : decode cX10_findSplit 125 = .ok (.if_icmp .ge 8, 3) := by decide +kernel
theorem dX10_findSplit_128 : decode cX10_findSplit 128 = .ok (.iload 5, 2) := by decide +kernel
theorem dX10_findSplit_130 : decode cX10_findSplit 130 = .ok (.goto 7, 3) := by decide +kernel
theorem dX10_findSplit_133 : decode cX10_findSplit 133 = .ok (.aload_n 0, 1) := by decide +kernel
theorem dX10_findSplit_134 : decode cX10_findSplit 134 = .ok (.getfield 187, 3) := by decide +kernel
theorem dX10_findSplit_137 : decode cX10_findSplit 137 = .ok (.putfield 187, 3) := by decide +kernel
theorem dX10_findSplit_140 : decode cX10_findSplit 140 = .ok (.iinc 4 1, 3) := by decide +kernel
theorem dX10_findSplit_143 : decode cX10_findSplit 143 = .ok (.goto (-111), 3) := by decide +kernel
theorem dX10_findSplit_146 : decode cX10_findSplit 146 = .ok (.iload_n 3, 1) := by decide +kernel
theorem dX10_findSplit_147 : decode cX10_findSplit 147 = .ok (.ireturn, 1) := by decide +kernel
theorem dX10_worst_0 : decode cX10_worst 0 = .ok (.iload_n 1, 1) := by decide +kernel
theorem dX10_worst_1 : decode cX10_worst 1 = .ok (.iconst 1, 1) := by decide +kernel
theorem dX10_worst_2 : decode cX10_worst 2 = .ok (.iconst 3, 1) := by decide +kernel
theorem dX10_worst_3 : decode cX10_worst 3 = .ok (.invokestatic 90, 3) := by decide +kernel
theorem dX10_worst_6 : decode cX10_worst 6 = .ok (.ifCond .ne 6, 3) := by decide +kernel
theorem dX10_worst_9 : decode cX10_worst 9 = .ok (.bipush (-3), 2) := by decide +kernel
theorem dX10_worst_11 : decode cX10_worst 11 = .ok (.ireturn, 1) := by decide +kernel
theorem dX10_worst_12 : decode cX10_worst 12 = .ok (.aload_n 0, 1) := by decide +kernel
theorem dX10_worst_13 : decode cX10_worst 13 = .ok (.iload_n 1, 1) := by decide +kernel
theorem dX10_worst_14 : decode cX10_worst 14 = .ok (.invokevirtual 193, 3) := by decide +kernel
theorem dX10_worst_17 : decode cX10_worst 17 = .ok (.pop, 1) := by decide +kernel
theorem dX10_worst_18 : decode cX10_worst 18 = .ok (.aload_n 0, 1) := by decide +kernel
theorem dX10_worst_19 : decode cX10_worst 19 = .ok (.getfield 187, 3) := by decide +kernel
theorem dX10_worst_22 : decode cX10_worst 22 = .ok (.ireturn, 1) := by decide +kernel
theorem dX10_split_0 : decode cX10_split 0 = .ok (.iload_n 2, 1) := by decide +kernel
theorem dX10_split_1 : decode cX10_split 1 = .ok (.iconst 0, 1) := by decide +kernel
theorem dX10_split_2 : decode cX10_split 2 = .ok (.aload_n 0, 1) := by decide +kernel
theorem dX10_split_3 : decode cX10_split 3 = .ok (.getfield 180, 3) := by decide +kernel
theorem dX10_split_6 : decode cX10_split 6 = .ok (.iconst 1, 1) := by decide +kernel
theorem dX10_split_7 : decode cX10_split 7 = .ok (.isub, 1) := by decide +kernel
theorem dX10_split_8 : decode cX10_split 8 = .ok (.invokestatic 90, 3) := by decide +kernel
theorem dX10_split_11 : decode cX10_split 11 = .ok (.ifCond .ne 6, 3) := by decide +kernel
theorem dX10_split_14 : decode cX10_split 14 = .ok (.bipush (-2), 2) := by decide +kernel
theorem dX10_split_16 : decode cX10_split 16 = .ok (.ireturn, 1) := by decide +kernel
theorem dX10_split_17 : decode cX10_split 17 = .ok (.iload_n 1, 1) := by decide +kernel
theorem dX10_split_18 : decode cX10_split 18 = .ok (.iconst 1, 1) := by decide +kernel
theorem dX10_split_19 : decode cX10_split 19 = .ok (.iconst 3, 1) := by decide +kernel
theorem dX10_split_20 : decode cX10_split 20 = .ok (.invokestatic 90, 3) := by decide +kernel
theorem dX10_split_23 : decode cX10_split 23 = .ok (.ifCond .eq 12, 3) := by decide +kernel
theorem dX10_split_26 : decode cX10_split 26 = .ok (.iload_n 3, 1) := by decide +kernel
theorem dX10_split_27 : decode cX10_split 27 = .ok (.iconst 0, 1) := by decide +kernel
theorem dX10_split_28 : decode cX10_split 28 = .ok (.iconst 1, 1) := by decide +kernel
theorem dX10_split_29 : decode cX10_split 29 = .ok (.invokestatic 90, 3) := by decide +kernel
theorem dX10_split_32 : decode cX10_split 32 = .ok (.ifCond .ne 6, 3) := by decide +kernel
theorem dX10_split_35 : decode cX10_split 35 = .ok (.bipush (-3), 2) := by decide +kernel
theorem dX10_split_37 : decode cX10_split 37 = .ok (.ireturn, 1) := by decide +kernel
theorem dX10_split_38 : decode cX10_split 38 = .ok (.aload_n 0, 1) := by decide +kernel
theorem dX10_split_39 : decode cX10_split 39 = .ok (.iload_n 1, 1) := by decide +kernel
theorem dX10_split_40 : decode cX10_split 40 = .ok (.invokevirtual 193, 3) := by decide +kernel
theorem dX10_split_43 : decode cX10_split 43 = .ok (.istore 4, 2) := by decide +kernel
theorem dX10_split_45 : decode cX10_split 45 = .ok (.iload_n 3, 1) := by decide +kernel
theorem dX10_split_46 : decode cX10_split 46 = .ok (.ifCond .ne 14, 3) := by decide +kernel
theorem dX10_split_49 : decode cX10_split 49 = .ok (.aload_n 0, 1) := by decide +kernel
theorem dX10_split_50 : decode cX10_split 50 = .ok (.iload 4, 2) := by decide +kernel
theorem dX10_split_52 : decode cX10_split 52 = .ok (.iload_n 1, 1) := by decide +kernel
theorem dX10_split_53 : decode cX10_split 53 = .ok (.iload_n 2, 1) := by decide +kernel
theorem dX10_split_54 : decode cX10_split 54 = .ok (.invokevirtual 183, 3) := by decide +kernel
theorem dX10_split_57 : decode cX10_split 57 = .ok (.goto 11, 3) := by decide +kernel
theorem dX10_split_60 : decode cX10_split 60 = .ok (.aload_n 0, 1) := by decide +kernel
theorem dX10_split_61 : decode cX10_split 61 = .ok (.iload 4, 2) := by decide +kernel
theorem dX10_split_63 : decode cX10_split 63 = .ok (.iload_n 1, 1) := by decide +kernel
theorem dX10_split_64 : decode cX10_split 64 = .ok (.iload_n 2, 1) := by decide +kernel
theorem dX10_split_65 : decode cX10_split 65 = .ok (.invokevirtual 190, 3) := by decide +kernel
theorem dX10_split_68 : decode cX10_split 68 = .ok (.ireturn, 1) := by decide +kernel
theorem dX10_club_0 : decode cX10_club 0 = .ok (.iload_n 1, 1) := by decide +kernel
theorem dX10_club_1 : decode cX10_club 1 = .ok (.iconst 0, 1) := by decide +kernel
theorem dX10_club_2 : decode cX10_club 2 = .ok (.iconst 3, 1) := by decide +kernel
theorem dX10_club_3 : decode cX10_club 3 = .ok (.invokestatic 90, 3) := by decide +kernel
theorem dX10_club_6 : decode cX10_club 6 = .ok (.ifCond .ne 6, 3) := by decide +kernel
theorem dX10_club_9 : decode cX10_club 9 = .ok (.bipush (-2), 2) := by decide +kernel
theorem dX10_club_11 : decode cX10_club 11 = .ok (.ireturn, 1) := by decide +kernel
theorem dX10_club_12 : decode cX10_club 12 = .ok (.iload_n 2, 1) := by decide +kernel
theorem dX10_club_13 : decode cX10_club 13 = .ok (.iconst 0, 1) := by decide +kernel
theorem dX10_club_14 : decode cX10_club 14 = .ok (.iconst 1, 1) := by decide +kernel
theorem dX10_club_15 : decode cX10_club 15 = .ok (.aload_n 0, 1) := by decide +kernel
theorem dX10_club_16 : decode cX10_club 16 = .ok (.getfield 94, 3) := by decide +kernel
theorem dX10_club_19 : decode cX10_club 19 = .ok (.ishl, 1) := by decide +kernel
theorem dX10_club_20 : decode cX10_club 20 = .ok (.iconst 1, 1) := by decide +kernel
theorem dX10_club_21 : decode cX10_club 21 = .ok (.isub, 1) := by decide +kernel
theorem dX10_club_22 : decode cX10_club 22 = .ok (.invokestatic 90, 3) := by decide +kernel
theorem dX10_club_25 : decode cX10_club 25 = .ok (.ifCond .ne 6, 3) := by decide +kernel
theorem dX10_club_28 : decode cX10_club 28 = .ok (.bipush (-3), 2) := by decide +kernel
theorem dX10_club_30 : decode cX10_club 30 = .ok (.ireturn, 1) := by decide +kernel
theorem dX10_club_31 : decode cX10_club 31 = .ok (.aload_n 0, 1) := by decide +kernel
theorem dX10_club_32 : decode cX10_club 32 = .ok (.getfield 78, 3) := by decide +kernel
theorem dX10_club_35 : decode cX10_club 35 = .ok (.iload_n 1, 1) := by decide +kernel
theorem dX10_club_36 : decode cX10_club 36 = .ok (.iaload, 1) := by decide +kernel
theorem dX10_club_37 : decode cX10_club 37 = .ok (.istore_n 3, 1) := by decide +kernel
theorem dX10_club_38 : decode cX10_club 38 = .ok (.aload_n 0, 1) := by decide +kernel
theorem dX10_club_39 : decode cX10_club 39 = .ok (.getfield 78, 3) := by decide +kernel
theorem dX10_club_42 : decode cX10_club 42 = .ok (.iload_n 1, 1) := by decide +kernel
theorem dX10_club_43 : decode cX10_club 43 = .ok (.iload_n 2, 1) := by decide +kernel
theorem dX10_club_44 : decode cX10_club 44 = .ok (.iastore, 1) := by decide +kernel
theorem dX10_club_45 : decode cX10_club 45 = .ok (.iload_n 3, 1) := by decide +kernel
theorem dX10_club_46 : decode cX10_club 46 = .ok (.ireturn, 1) := by decide +kernel
theorem dX10_colour_0 : decode cX10_colour 0 = .ok (.iload_n 1, 1) := by decide +kernel
theorem dX10_colour_1 : decode cX10_colour 1 = .ok (.iconst 0, 1) := by decide +kernel
theorem dX10_colour_2 : decode cX10_colour 2 = .ok (.iconst 3, 1) := by decide +kernel
theorem dX10_colour_3 : decode cX10_colour 3 = .ok (.invokestatic 90, 3) := by decide +kernel
theorem dX10_colour_6 : decode cX10_colour 6 = .ok (.ifCond .ne 6, 3) := by decide +kernel
theorem dX10_colour_9 : decode cX10_colour 9 = .ok (.bipush (-2), 2) := by decide +kernel
theorem dX10_colour_11 : decode cX10_colour 11 = .ok (.ireturn, 1) := by decide +kernel
theorem dX10_colour_12 : decode cX10_colour 12 = .ok (.iload_n 2, 1) := by decide +kernel
theorem dX10_colour_13 : decode cX10_colour 13 = .ok (.iconst 0, 1) := by decide +kernel
theorem dX10_colour_14 : decode cX10_colour 14 = .ok (.iconst 5, 1) := by decide +kernel
theorem dX10_colour_15 : decode cX10_colour 15 = .ok (.invokestatic 90, 3) := by decide +kernel
theorem dX10_colour_18 : decode cX10_colour 18 = .ok (.ifCond .eq 14, 3) := by decide +kernel
theorem dX10_colour_21 : decode cX10_colour 21 = .ok (.iload_n 3, 1) := by decide +kernel
theorem dX10_colour_22 : decode cX10_colour 22 = .ok (.iconst 0, 1) := by decide +kernel
theorem dX10_colour_23 : decode cX10_colour 23 = .ok (.sipush 400, 3) := by decide +kernel
theorem dX10_colour_26 : decode cX10_colour 26 = .ok (.invokestatic 90, 3) := by decide +kernel
theorem dX10_colour_29 : decode cX10_colour 29 = .ok (.ifCond .ne 6, 3) := by decide +kernel
theorem dX10_colour_32 : decode cX10_colour 32 = .ok (.bipush (-3), 2) := by decide +kernel
theorem dX10_colour_34 : decode cX10_colour 34 = .ok (.ireturn, 1) := by decide +kernel
theorem dX10_colour_35 : decode cX10_colour 35 = .ok (.aload_n 0, 1) := by decide +kernel
theorem dX10_colour_36 : decode cX10_colour 36 = .ok (.getfield 196, 3) := by decide +kernel
theorem dX10_colour_39 : decode cX10_colour 39 = .ok (.bipush 8, 2) := by decide +kernel
theorem dX10_colour_41 : decode cX10_colour 41 = .ok (.if_icmp .ne 6, 3) := by decide +kernel
theorem dX10_colour_44 : decode cX10_colour 44 = .ok (.bipush (-5), 2) := by decide +kernel
theorem dX10_colour_46 : decode cX10_colour 46 = .ok (.ireturn, 1) := by decide +kernel
theorem dX10_colour_47 : decode cX10_colour 47 = .ok (.aload_n 0, 1) := by decide +kernel
theorem dX10_colour_48 : decode cX10_colour 48 = .ok (.getfield 81, 3) := by decide +kernel
theorem dX10_colour_51 : decode cX10_colour 51 = .ok (.aload_n 0, 1) := by decide +kernel
theorem dX10_colour_52 : decode cX10_colour 52 = .ok (.getfield 196, 3) := by decide +kernel
theorem dX10_colour_55 : decode cX10_colour 55 = .ok (.iload_n 1, 1) := by decide +kernel
theorem dX10_colour_56 : decode cX10_colour 56 = .ok (.iastore, 1) := by decide +kernel
theorem dX10_colour_57 : decode cX10_colour 57 = .ok (.aload_n 0, 1) := by decide +kernel
theorem dX10_colour_58 : decode cX10_colour 58 = .ok (.getfield 84, 3) := by decide +kernel
theorem dX10_colour_61 : decode cX10_colour 61 = .ok (.aload_n 0, 1) := by decide +kernel
theorem dX10_colour_62 : decode cX10_colour 62 = .ok (.getfield 196, 3) := by decide +kernel
theorem dX10_colour_65 : decode cX10_colour 65 = .ok (.iload_n 2, 1) := by decide +kernel
theorem dX10_colour_66 : decode cX10_colour 66 = .ok (.iastore, 1) := by decide +kernel
theorem dX10_colour_67 : decode cX10_colour 67 = .ok (.aload_n 0, 1) := by decide +kernel
theorem dX10_colour_68 : decode cX10_colour 68 = .ok (.getfield 87, 3) := by decide +kernel
theorem dX10_colour_71 : decode cX10_colour 71 = .ok (.aload_n 0, 1) := by decide +kernel
theorem dX10_colour_72 : decode cX10_colour 72 = .ok (.getfield 196, 3) := by decide +kernel
theorem dX10_colour_75 : decode cX10_colour 75 = .ok (.iload_n 3, 1) := by decide +kernel
theorem dX10_colour_76 : decode cX10_colour 76 = .ok (.iastore, 1) := by decide +kernel
theorem dX10_colour_77 : decode cX10_colour 77 = .ok (.aload_n 0, 1) := by decide +kernel
theorem dX10_colour_78 : decode cX10_colour 78 = .ok (.dup, 1) := by decide +kernel
theorem dX10_colour_79 : decode cX10_colour 79 = .ok (.getfield 196, 3) := by decide +kernel
theorem dX10_colour_82 : decode cX10_colour 82 = .ok (.iconst 1, 1) := by decide +kernel
theorem dX10_colour_83 : decode cX10_colour 83 = .ok (.iadd, 1) := by decide +kernel
theorem dX10_colour_84 : decode cX10_colour 84 = .ok (.putfield 196, 3) := by decide +kernel
theorem dX10_colour_87 : decode cX10_colour 87 = .ok (.aload_n 0, 1) := by decide +kernel
theorem dX10_colour_88 : decode cX10_colour 88 = .ok (.getfield 196, 3) := by decide +kernel
theorem dX10_colour_91 : decode cX10_colour 91 = .ok (.ireturn, 1) := by decide +kernel
theorem dX10_colourTo_0 : decode cX10_colourTo 0 = .ok (.iconst (-1), 1) := by decide +kernel
theorem dX10_colourTo_1 : decode cX10_colourTo 1 = .ok (.istore 4, 2) := by decide +kernel
theorem dX10_colourTo_3 : decode cX10_colourTo 3 = .ok (.iconst 0, 1) := by decide +kernel
theorem dX10_colourTo_4 : decode cX10_colourTo 4 = .ok (.istore 5, 2) := by decide +kernel
theorem dX10_colourTo_6 : decode cX10_colourTo 6 = .ok (.iconst 0, 1) := by decide +kernel
theorem dX10_colourTo_7 : decode cX10_colourTo 7 = .ok (.istore 6, 2) := by decide +kernel
theorem dX10_colourTo_9 : decode cX10_colourTo 9 = .ok (.iload 6, 2) := by decide +kernel
theorem dX10_colourTo_11 : decode cX10_colourTo 11 = .ok (.aload_n 0, 1) := by decide +kernel
theorem dX10_colourTo_12 : decode cX10_colourTo 12 = .ok (.getfield 196, 3) := by decide +kernel
theorem dX10_colourTo_15 : decode cX10_colourTo 15 = .ok (.if_icmp .ge 86, 3) := by decide +kernel
theorem dX10_colourTo_18 : decode cX10_colourTo 18 = .ok (.aload_n 0, 1) := by decide +kernel
theorem dX10_colourTo_19 : decode cX10_colourTo 19 = .ok (.getfield 81, 3) := by decide +kernel
theorem dX10_colourTo_22 : decode cX10_colourTo 22 = .ok (.iload 6, 2) := by decide +kernel
theorem dX10_colourTo_24 : decode cX10_colourTo 24 = .ok (.iaload, 1) := by decide +kernel
theorem dX10_colourTo_25 : decode cX10_colourTo 25 = .ok (.iload_n 1, 1) := by decide +kernel
theorem dX10_colourTo_26 : decode cX10_colourTo 26 = .ok (.if_icmp .ne 69, 3) := by decide +kernel
theorem dX10_colourTo_29 : decode cX10_colourTo 29 = .ok (.aload_n 0, 1) := by decide +kernel
theorem dX10_colourTo_30 : decode cX10_colourTo 30 = .ok (.getfield 87, 3) := by decide +kernel
theorem dX10_colourTo_33 : decode cX10_colourTo 33 = .ok (.iload 6, 2) := by decide +kernel
theorem dX10_colourTo_35 : decode cX10_colourTo 35 = .ok (.iaload, 1) := by decide +kernel
theorem dX10_colourTo_36 : decode cX10_colourTo 36 = .ok (.iload_n 3, 1) := by decide +kernel
theorem dX10_colourTo_37 : decode cX10_colourTo 37 = .ok (.if_icmp .gt 58, 3) := by decide +kernel
theorem dX10_colourTo_40 : decode cX10_colourTo 40 = .ok (.iload 4, 2) := by decide +kernel
theorem dX10_colourTo_42 : decode cX10_colourTo 42 = .ok (.iconst (-1), 1) := by decide +kernel
theorem dX10_colourTo_43 : decode cX10_colourTo 43 = .ok (.if_icmp .eq 20, 3) := by decide +kernel
theorem dX10_colourTo_46 : decode cX10_colourTo 46 = .ok (.aload_n 0, 1) := by decide +kernel
theorem dX10_colourTo_47 : decode cX10_colourTo 47 = .ok (.getfield 87, 3) := by decide +kernel
theorem dX10_colourTo_50 : decode cX10_colourTo 50 = .ok (.iload 6, 2) := by decide +kernel
theorem dX10_colourTo_52 : decode cX10_colourTo 52 = .ok (.iaload, 1) := by decide +kernel
theorem dX10_colourTo_53 : decode cX10_colourTo 53 = .ok (.aload_n 0, 1) := by decide +kernel
theorem dX10_colourTo_54 : decode cX10_colourTo 54 = .ok (.getfield 87, 3) := by decide +kernel
theorem dX10_colourTo_57 : decode cX10_colourTo 57 = .ok (.iload 4, 2) := by decide +kernel
theorem dX10_colourTo_59 : decode cX10_colourTo 59 = .ok (.iaload, 1) := by decide +kernel
theorem dX10_colourTo_60 : decode cX10_colourTo 60 = .ok (.if_icmp .lt 8, 3) := by decide +kernel
theorem dX10_colourTo_63 : decode cX10_colourTo 63 = .ok (.iload 6, 2) := by decide +kernel
theorem dX10_colourTo_65 : decode cX10_colourTo 65 = .ok (.goto 5, 3) := by decide +kernel
theorem dX10_colourTo_68 : decode cX10_colourTo 68 = .ok (.iload 4, 2) := by decide +kernel
theorem dX10_colourTo_70 : decode cX10_colourTo 70 = .ok (.istore 4, 2) := by decide +kernel
theorem dX10_colourTo_72 : decode cX10_colourTo 72 = .ok (.iload 5, 2) := by decide +kernel
theorem dX10_colourTo_74 : decode cX10_colourTo 74 = .ok (.ifCond .ne 14, 3) := by decide +kernel
theorem dX10_colourTo_77 : decode cX10_colourTo 77 = .ok (.aload_n 0, 1) := by decide +kernel
theorem dX10_colourTo_78 : decode cX10_colourTo 78 = .ok (.getfield 84, 3) := by decide +kernel
theorem dX10_colourTo_81 : decode cX10_colourTo 81 = .ok (.iload 6, 2) := by decide +kernel
theorem dX10_colourTo_83 : decode cX10_colourTo 83 = .ok (.iaload, 1) := by decide +kernel
theorem dX10_colourTo_84 : decode cX10_colourTo 84 = .ok (.iload_n 2, 1) := by decide +kernel
theorem dX10_colourTo_85 : decode cX10_colourTo 85 = .ok (.if_icmp .ne 7, 3) := by decide +kernel
theorem dX10_colourTo_88 : decode cX10_colourTo 88 = .ok (.iconst 1, 1) := by decide +kernel
theorem dX10_colourTo_89 : decode cX10_colourTo 89 = .ok (.goto 4, 3) := by decide +kernel
theorem dX10_colourTo_92 : decode cX10_colourTo 92 = .ok (.iconst 0, 1) := by decide +kernel
theorem dX10_colourTo_93 : decode cX10_colourTo 93 = .ok (.istore 5, 2) := by decide +kernel
theorem dX10_colourTo_95 : decode cX10_colourTo 95 = .ok (.iinc 6 1, 3) := by decide +kernel
theorem dX10_colourTo_98 : decode cX10_colourTo 98 = .ok (.goto (-89), 3) := by decide +kernel
theorem dX10_colourTo_101 : decode cX10_colourTo 101 = .ok (.iload 4, 2) := by decide +kernel
theorem dX10_colourTo_103 : decode cX10_colourTo 103 = .ok (.iconst (-1), 1) := by decide +kernel
theorem dX10_colourTo_104 : decode cX10_colourTo 104 = .ok (.if_icmp .eq 18, 3) := by decide +kernel
theorem dX10_colourTo_107 : decode cX10_colourTo 107 = .ok (.aload_n 0, 1) := by decide +kernel
theorem dX10_colourTo_108 : decode cX10_colourTo 108 = .ok (.getfield 84, 3) := by decide +kernel
theorem dX10_colourTo_111 : decode cX10_colourTo 111 = .ok (.iload 4, 2) := by decide +kernel
theorem dX10_colourTo_113 : decode cX10_colourTo 113 = .ok (.iaload, 1) := by decide +kernel
theorem dX10_colourTo_114 : decode cX10_colourTo 114 = .ok (.iload_n 2, 1) := by decide +kernel
theorem dX10_colourTo_115 : decode cX10_colourTo 115 = .ok (.if_icmp .ne 7, 3) := by decide +kernel
theorem dX10_colourTo_118 : decode cX10_colourTo 118 = .ok (.iconst 2, 1) := by decide +kernel
theorem dX10_colourTo_119 : decode cX10_colourTo 119 = .ok (.goto 13, 3) := by decide +kernel
theorem dX10_colourTo_122 : decode cX10_colourTo 122 = .ok (.iload 5, 2) := by decide +kernel
theorem dX10_colourTo_124 : decode cX10_colourTo 124 = .ok (.ifCond .eq 7, 3) := by decide +kernel
theorem dX10_colourTo_127 : decode cX10_colourTo 127 = .ok (.iconst 1, 1) := by decide +kernel
theorem dX10_colourTo_128 : decode cX10_colourTo 128 = .ok (.goto 4, 3) := by decide +kernel
theorem dX10_colourTo_131 : decode cX10_colourTo 131 = .ok (.iconst 0, 1) := by decide +kernel
theorem dX10_colourTo_132 : decode cX10_colourTo 132 = .ok (.ireturn, 1) := by decide +kernel
theorem dX10_whose_0 : decode cX10_whose 0 = .ok (.iload_n 1, 1) := by decide +kernel
theorem dX10_whose_1 : decode cX10_whose 1 = .ok (.iconst 0, 1) := by decide +kernel
theorem dX10_whose_2 : decode cX10_whose 2 = .ok (.aload_n 0, 1) := by decide +kernel
theorem dX10_whose_3 : decode cX10_whose 3 = .ok (.getfield 94, 3) := by decide +kernel
theorem dX10_whose_6 : decode cX10_whose 6 = .ok (.iconst 1, 1) := by decide +kernel
theorem dX10_whose_7 : decode cX10_whose 7 = .ok (.isub, 1) := by decide +kernel
theorem dX10_whose_8 : decode cX10_whose 8 = .ok (.invokestatic 90, 3) := by decide +kernel
theorem dX10_whose_11 : decode cX10_whose 11 = .ok (.ifCond .ne 6, 3) := by decide +kernel
theorem dX10_whose_14 : decode cX10_whose 14 = .ok (.bipush (-2), 2) := by decide +kernel
theorem dX10_whose_16 : decode cX10_whose 16 = .ok (.ireturn, 1) := by decide +kernel
theorem dX10_whose_17 : decode cX10_whose 17 = .ok (.iload_n 2, 1) := by decide +kernel
theorem dX10_whose_18 : decode cX10_whose 18 = .ok (.iconst 0, 1) := by decide +kernel
theorem dX10_whose_19 : decode cX10_whose 19 = .ok (.iconst 5, 1) := by decide +kernel
theorem dX10_whose_20 : decode cX10_whose 20 = .ok (.invokestatic 90, 3) := by decide +kernel
theorem dX10_whose_23 : decode cX10_whose 23 = .ok (.ifCond .eq 24, 3) := by decide +kernel
theorem dX10_whose_26 : decode cX10_whose 26 = .ok (.iload_n 3, 1) := by decide +kernel
theorem dX10_whose_27 : decode cX10_whose 27 = .ok (.iconst 0, 1) := by decide +kernel
theorem dX10_whose_28 : decode cX10_whose 28 = .ok (.sipush 400, 3) := by decide +kernel
theorem dX10_whose_31 : decode cX10_whose 31 = .ok (.invokestatic 90, 3) := by decide +kernel
theorem dX10_whose_34 : decode cX10_whose 34 = .ok (.ifCond .eq 13, 3) := by decide +kernel
theorem dX10_whose_37 : decode cX10_whose 37 = .ok (.iload 4, 2) := by decide +kernel
theorem dX10_whose_39 : decode cX10_whose 39 = .ok (.iconst 0, 1) := by decide +kernel
theorem dX10_whose_40 : decode cX10_whose 40 = .ok (.iconst 1, 1) := by decide +kernel
theorem dX10_whose_41 : decode cX10_whose 41 = .ok (.invokestatic 90, 3) := by decide +kernel
theorem dX10_whose_44 : decode cX10_whose 44 = .ok (.ifCond .ne 6, 3) := by decide +kernel
theorem dX10_whose_47 : decode cX10_whose 47 = .ok (.bipush (-3), 2) := by decide +kernel
theorem dX10_whose_49 : decode cX10_whose 49 = .ok (.ireturn, 1) := by decide +kernel
theorem dX10_whose_50 : decode cX10_whose 50 = .ok (.iconst 0, 1) := by decide +kernel
theorem dX10_whose_51 : decode cX10_whose 51 = .ok (.istore 5, 2) := by decide +kernel
theorem dX10_whose_53 : decode cX10_whose 53 = .ok (.iconst 0, 1) := by decide +kernel
theorem dX10_whose_54 : decode cX10_whose 54 = .ok (.istore 6, 2) := by decide +kernel
theorem dX10_whose_56 : decode cX10_whose 56 = .ok (.iload 6, 2) := by decide +kernel
theorem dX10_whose_58 : decode cX10_whose 58 = .ok (.iconst 4, 1) := by decide +kernel
theorem dX10_whose_59 : decode cX10_whose 59 = .ok (.if_icmp .ge 64, 3) := by decide +kernel
theorem dX10_whose_62 : decode cX10_whose 62 = .ok (.aload_n 0, 1) := by decide +kernel
theorem dX10_whose_63 : decode cX10_whose 63 = .ok (.getfield 78, 3) := by decide +kernel
theorem dX10_whose_66 : decode cX10_whose 66 = .ok (.iload 6, 2) := by decide +kernel
theorem dX10_whose_68 : decode cX10_whose 68 = .ok (.iaload, 1) := by decide +kernel
theorem dX10_whose_69 : decode cX10_whose 69 = .ok (.iload_n 1, 1) := by decide +kernel
theorem dX10_whose_70 : decode cX10_whose 70 = .ok (.ishr, 1) := by decide +kernel
theorem dX10_whose_71 : decode cX10_whose 71 = .ok (.iconst 1, 1) := by decide +kernel
theorem dX10_whose_72 : decode cX10_whose 72 = .ok (.iand, 1) := by decide +kernel
theorem dX10_whose_73 : decode cX10_whose 73 = .ok (.iconst 1, 1) := by decide +kernel
theorem dX10_whose_74 : decode cX10_whose 74 = .ok (.if_icmp .ne 22, 3) := by decide +kernel
theorem dX10_whose_77 : decode cX10_whose 77 = .ok (.aload_n 0, 1) := by decide +kernel
theorem dX10_whose_78 : decode cX10_whose 78 = .ok (.iload 6, 2) := by decide +kernel
theorem dX10_whose_80 : decode cX10_whose 80 = .ok (.iload_n 2, 1) := by decide +kernel
theorem dX10_whose_81 : decode cX10_whose 81 = .ok (.iload_n 3, 1) := by decide +kernel
theorem dX10_whose_82 : decode cX10_whose 82 = .ok (.invokevirtual 199, 3) := by decide +kernel
theorem dX10_whose_85 : decode cX10_whose 85 = .ok (.iconst 2, 1) := by decide +kernel
theorem dX10_whose_86 : decode cX10_whose 86 = .ok (.iload 4, 2) := by decide +kernel
theorem dX10_whose_88 : decode cX10_whose 88 = .ok (.isub, 1) := by decide +kernel
theorem dX10_whose_89 : decode cX10_whose 89 = .ok (.if_icmp .ne 7, 3) := by decide +kernel
theorem dX10_whose_92 : decode cX10_whose 92 = .ok (.iconst 1, 1) := by decide +kernel
theorem dX10_whose_93 : decode cX10_whose 93 = .ok (.goto 4, 3) := by decide +kernel
theorem dX10_whose_96 : decode cX10_whose 96 = .ok (.iconst 0, 1) := by decide +kernel
theorem dX10_whose_97 : decode cX10_whose 97 = .ok (.istore 7, 2) := by decide +kernel
theorem dX10_whose_99 : decode cX10_whose 99 = .ok (.iload 5, 2) := by decide +kernel
theorem dX10_whose_101 : decode cX10_whose 101 = .ok (.iload 7, 2) := by decide +kernel
theorem dX10_whose_103 : decode cX10_whose 103 = .ok (.ifCond .eq 10, 3) := by decide +kernel
theorem dX10_whose_106 : decode cX10_whose 106 = .ok (.iconst 1, 1) := by decide +kernel
theorem dX10_whose_107 : decode cX10_whose 107 = .ok (.iload 6, 2) := by decide +kernel
theorem dX10_whose_109 : decode cX10_whose 109 = .ok (.ishl, 1) := by decide +kernel
theorem dX10_whose_110 : decode cX10_whose 110 = .ok (.goto 4, 3) := by decide +kernel
theorem dX10_whose_113 : decode cX10_whose 113 = .ok (.iconst 0, 1) := by decide +kernel
theorem dX10_whose_114 : decode cX10_whose 114 = .ok (.ior, 1) := by decide +kernel
theorem dX10_whose_115 : decode cX10_whose 115 = .ok (.istore 5, 2) := by decide +kernel
theorem dX10_whose_117 : decode cX10_whose 117 = .ok (.iinc 6 1, 3) := by decide +kernel
theorem dX10_whose_120 : decode cX10_whose 120 = .ok (.goto (-64), 3) := by decide +kernel
theorem dX10_whose_123 : decode cX10_whose 123 = .ok (.iload 5, 2) := by decide +kernel
theorem dX10_whose_125 : decode cX10_whose 125 = .ok (.ireturn, 1) := by decide +kernel
theorem dX10_count_0 : decode cX10_count 0 = .ok (.iconst 0, 1) := by decide +kernel
theorem dX10_count_1 : decode cX10_count 1 = .ok (.istore_n 2, 1) := by decide +kernel
theorem dX10_count_2 : decode cX10_count 2 = .ok (.iload_n 1, 1) := by decide +kernel
theorem dX10_count_3 : decode cX10_count 3 = .ok (.tableswitch 115 0 7 #[45, 50, 55, 90, 95, 100, 105, 110], 45) := by decide +kernel
theorem dX10_count_48 : decode cX10_count 48 = .ok (.aload_n 0, 1) := by decide +kernel
theorem dX10_count_49 : decode cX10_count 49 = .ok (.getfield 94, 3) := by decide +kernel
theorem dX10_count_52 : decode cX10_count 52 = .ok (.ireturn, 1) := by decide +kernel
theorem dX10_count_53 : decode cX10_count 53 = .ok (.aload_n 0, 1) := by decide +kernel
theorem dX10_count_54 : decode cX10_count 54 = .ok (.getfield 115, 3) := by decide +kernel
theorem dX10_count_57 : decode cX10_count 57 = .ok (.ireturn, 1) := by decide +kernel
theorem dX10_count_58 : decode cX10_count 58 = .ok (.iconst 0, 1) := by decide +kernel
theorem dX10_count_59 : decode cX10_count 59 = .ok (.istore_n 3, 1) := by decide +kernel
theorem dX10_count_60 : decode cX10_count 60 = .ok (.iload_n 3, 1) := by decide +kernel
theorem dX10_count_61 : decode cX10_count 61 = .ok (.aload_n 0, 1) := by decide +kernel
theorem dX10_count_62 : decode cX10_count 62 = .ok (.getfield 115, 3) := by decide +kernel
theorem dX10_count_65 : decode cX10_count 65 = .ok (.if_icmp .ge 26, 3) := by decide +kernel
theorem dX10_count_68 : decode cX10_count 68 = .ok (.iload_n 2, 1) := by decide +kernel
theorem dX10_count_69 : decode cX10_count 69 = .ok (.aload_n 0, 1) := by decide +kernel
theorem dX10_count_70 : decode cX10_count 70 = .ok (.getfield 28, 3) := by decide +kernel
theorem dX10_count_73 : decode cX10_count 73 = .ok (.iload_n 3, 1) := by decide +kernel
theorem dX10_count_74 : decode cX10_count 74 = .ok (.iaload, 1) := by decide +kernel
theorem dX10_count_75 : decode cX10_count 75 = .ok (.ifCond .le 7, 3) := by decide +kernel
theorem dX10_count_78 : decode cX10_count 78 = .ok (.iconst 1, 1) := by decide +kernel
theorem dX10_count_79 : decode cX10_count 79 = .ok (.goto 4, 3) := by decide +kernel
theorem dX10_count_82 : decode cX10_count 82 = .ok (.iconst 0, 1) := by decide +kernel
theorem dX10_count_83 : decode cX10_count 83 = .ok (.iadd, 1) := by decide +kernel
theorem dX10_count_84 : decode cX10_count 84 = .ok (.istore_n 2, 1) := by decide +kernel
theorem dX10_count_85 : decode cX10_count 85 = .ok (.iinc 3 1, 3) := by decide +kernel
theorem dX10_count_88 : decode cX10_count 88 = .ok (.goto (-28), 3) := by decide +kernel
theorem dX10_count_91 : decode cX10_count 91 = .ok (.iload_n 2, 1) := by decide +kernel
theorem dX10_count_92 : decode cX10_count 92 = .ok (.ireturn, 1) := by decide +kernel
theorem dX10_count_93 : decode cX10_count 93 = .ok (.aload_n 0, 1) := by decide +kernel
theorem dX10_count_94 : decode cX10_count 94 = .ok (.getfield 112, 3) := by decide +kernel
theorem dX10_count_97 : decode cX10_count 97 = .ok (.ireturn, 1) := by decide +kernel
theorem dX10_count_98 : decode cX10_count 98 = .ok (.aload_n 0, 1) := by decide +kernel
theorem dX10_count_99 : decode cX10_count 99 = .ok (.getfield 150, 3) := by decide +kernel
theorem dX10_count_102 : decode cX10_count 102 = .ok (.ireturn, 1) := by decide +kernel
theorem dX10_count_103 : decode cX10_count 103 = .ok (.aload_n 0, 1) := by decide +kernel
theorem dX10_count_104 : decode cX10_count 104 = .ok (.getfield 162, 3) := by decide +kernel
theorem dX10_count_107 : decode cX10_count 107 = .ok (.ireturn, 1) := by decide +kernel
theorem dX10_count_108 : decode cX10_count 108 = .ok (.aload_n 0, 1) := by decide +kernel
theorem dX10_count_109 : decode cX10_count 109 = .ok (.getfield 171, 3) := by decide +kernel
theorem dX10_count_112 : decode cX10_count 112 = .ok (.ireturn, 1) := by decide +kernel
theorem dX10_count_113 : decode cX10_count 113 = .ok (.aload_n 0, 1) := by decide +kernel
theorem dX10_count_114 : decode cX10_count 114 = .ok (.getfield 180, 3) := by decide +kernel
theorem dX10_count_117 : decode cX10_count 117 = .ok (.ireturn, 1) := by decide +kernel
theorem dX10_count_118 : decode cX10_count 118 = .ok (.bipush (-3), 2) := by decide +kernel
theorem dX10_count_120 : decode cX10_count 120 = .ok (.ireturn, 1) := by decide +kernel
theorem dX2_init_0 : decode cX2_init 0 = .ok (.aload_n 0, 1) := by decide +kernel
theorem dX2_init_1 : decode cX2_init 1 = .ok (.invokespecial 3, 3) := by decide +kernel
theorem dX2_init_4 : decode cX2_init 4 = .ok (.aload_n 0, 1) := by decide +kernel
theorem dX2_init_5 : decode cX2_init 5 = .ok (.new 9, 3) := by decide +kernel
theorem dX2_init_8 : decode cX2_init 8 = .ok (.dup, 1) := by decide +kernel
theorem dX2_init_9 : decode cX2_init 9 = .ok (.bipush 16, 2) := by decide +kernel
theorem dX2_init_11 : decode cX2_init 11 = .ok (.invokespecial 11, 3) := by decide +kernel
theorem dX2_init_14 : decode cX2_init 14 = .ok (.putfield 14, 3) := by decide +kernel
theorem dX2_init_17 : decode cX2_init 17 = .ok (.aload_n 0, 1) := by decide +kernel
theorem dX2_init_18 : decode cX2_init 18 = .ok (.new 9, 3) := by decide +kernel
theorem dX2_init_21 : decode cX2_init 21 = .ok (.dup, 1) := by decide +kernel
theorem dX2_init_22 : decode cX2_init 22 = .ok (.bipush 16, 2) := by decide +kernel
theorem dX2_init_24 : decode cX2_init 24 = .ok (.invokespecial 11, 3) := by decide +kernel
theorem dX2_init_27 : decode cX2_init 27 = .ok (.putfield 20, 3) := by decide +kernel
theorem dX2_init_30 : decode cX2_init 30 = .ok (.aload_n 0, 1) := by decide +kernel
theorem dX2_init_31 : decode cX2_init 31 = .ok (.new 9, 3) := by decide +kernel
theorem dX2_init_34 : decode cX2_init 34 = .ok (.dup, 1) := by decide +kernel
theorem dX2_init_35 : decode cX2_init 35 = .ok (.bipush 16, 2) := by decide +kernel
theorem dX2_init_37 : decode cX2_init 37 = .ok (.invokespecial 11, 3) := by decide +kernel
theorem dX2_init_40 : decode cX2_init 40 = .ok (.putfield 23, 3) := by decide +kernel
theorem dX2_init_43 : decode cX2_init 43 = .ok (.aload_n 0, 1) := by decide +kernel
theorem dX2_init_44 : decode cX2_init 44 = .ok (.new 9, 3) := by decide +kernel
theorem dX2_init_47 : decode cX2_init 47 = .ok (.dup, 1) := by decide +kernel
theorem dX2_init_48 : decode cX2_init 48 = .ok (.bipush 10, 2) := by decide +kernel
theorem dX2_init_50 : decode cX2_init 50 = .ok (.invokespecial 11, 3) := by decide +kernel
theorem dX2_init_53 : decode cX2_init 53 = .ok (.invokevirtual 26, 3) := by decide +kernel
theorem dX2_init_56 : decode cX2_init 56 = .ok (.putfield 30, 3) := by decide +kernel
theorem dX2_init_59 : decode cX2_init 59 = .ok (.return_, 1) := by decide +kernel
theorem dX2_pathCount_0 : decode cX2_pathCount 0 = .ok (.aload_n 0, 1) := by decide +kernel
theorem dX2_pathCount_1 : decode cX2_pathCount 1 = .ok (.getfield 23, 3) := by decide +kernel
theorem dX2_pathCount_4 : decode cX2_pathCount 4 = .ok (.invokevirtual 33, 3) := by decide +kernel
theorem dX2_pathCount_7 : decode cX2_pathCount 7 = .ok (.ireturn, 1) := by decide +kernel
theorem dX2_join_0 : decode cX2_join 0 = .ok (.aload_n 0, 1) := by decide +kernel
theorem dX2_join_1 : decode cX2_join 1 = .ok (.invokevirtual 37, 3) := by decide +kernel
theorem dX2_join_4 : decode cX2_join 4 = .ok (.istore 4, 2) := by decide +kernel
theorem dX2_join_6 : decode cX2_join 6 = .ok (.aload_n 0, 1) := by decide +kernel
theorem dX2_join_7 : decode cX2_join 7 = .ok (.getfield 14, 3) := by decide +kernel
theorem dX2_join_10 : decode cX2_join 10 = .ok (.iload_n 1, 1) := by decide +kernel
theorem dX2_join_11 : decode cX2_join 11 = .ok (.invokevirtual 40, 3) := by decide +kernel
theorem dX2_join_14 : decode cX2_join 14 = .ok (.pop, 1) := by decide +kernel
theorem dX2_join_15 : decode cX2_join 15 = .ok (.aload_n 0, 1) := by decide +kernel
theorem dX2_join_16 : decode cX2_join 16 = .ok (.getfield 20, 3) := by decide +kernel
theorem dX2_join_19 : decode cX2_join 19 = .ok (.iload_n 2, 1) := by decide +kernel
theorem dX2_join_20 : decode cX2_join 20 = .ok (.invokevirtual 40, 3) := by decide +kernel
theorem dX2_join_23 : decode cX2_join 23 = .ok (.pop, 1) := by decide +kernel
theorem dX2_join_24 : decode cX2_join 24 = .ok (.aload_n 0, 1) := by decide +kernel
theorem dX2_join_25 : decode cX2_join 25 = .ok (.getfield 23, 3) := by decide +kernel
theorem dX2_join_28 : decode cX2_join 28 = .ok (.iload_n 3, 1) := by decide +kernel
theorem dX2_join_29 : decode cX2_join 29 = .ok (.invokevirtual 40, 3) := by decide +kernel
theorem dX2_join_32 : decode cX2_join 32 = .ok (.pop, 1) := by decide +kernel
theorem dX2_join_33 : decode cX2_join 33 = .ok (.aload_n 0, 1) := by decide +kernel
theorem dX2_join_34 : decode cX2_join 34 = .ok (.getfield 30, 3) := by decide +kernel
theorem dX2_join_37 : decode cX2_join 37 = .ok (.iload_n 1, 1) := by decide +kernel
theorem dX2_join_38 : decode cX2_join 38 = .ok (.aload_n 0, 1) := by decide +kernel
theorem dX2_join_39 : decode cX2_join 39 = .ok (.iload_n 1, 1) := by decide +kernel
theorem dX2_join_40 : decode cX2_join 40 = .ok (.invokevirtual 44, 3) := by decide +kernel
theorem dX2_join_43 : decode cX2_join 43 = .ok (.iload 4, 2) := by decide +kernel
theorem dX2_join_45 : decode cX2_join 45 = .ok (.invokestatic 47, 3) := by decide +kernel
theorem dX2_join_48 : decode cX2_join 48 = .ok (.ior, 1) := by decide +kernel
theorem dX2_join_49 : decode cX2_join 49 = .ok (.invokevirtual 50, 3) := by decide +kernel
theorem dX2_join_52 : decode cX2_join 52 = .ok (.aload_n 0, 1) := by decide +kernel
theorem dX2_join_53 : decode cX2_join 53 = .ok (.getfield 30, 3) := by decide +kernel
theorem dX2_join_56 : decode cX2_join 56 = .ok (.iload_n 2, 1) := by decide +kernel
theorem dX2_join_57 : decode cX2_join 57 = .ok (.aload_n 0, 1) := by decide +kernel
theorem dX2_join_58 : decode cX2_join 58 = .ok (.iload_n 2, 1) := by decide +kernel
theorem dX2_join_59 : decode cX2_join 59 = .ok (.invokevirtual 44, 3) := by decide +kernel
theorem dX2_join_62 : decode cX2_join 62 = .ok (.iload 4, 2) := by decide +kernel
theorem dX2_join_64 : decode cX2_join 64 = .ok (.invokestatic 47, 3) := by decide +kernel
theorem dX2_join_67 : decode cX2_join 67 = .ok (.ior, 1) := by decide +kernel
theorem dX2_join_68 : decode cX2_join 68 = .ok (.invokevirtual 50, 3) := by decide +kernel
theorem dX2_join_71 : decode cX2_join 71 = .ok (.iload 4, 2) := by decide +kernel
theorem dX2_join_73 : decode cX2_join 73 = .ok (.ireturn, 1) := by decide +kernel
theorem dX2_pathsAt_0 : decode cX2_pathsAt 0 = .ok (.iload_n 1, 1) := by decide +kernel
theorem dX2_pathsAt_1 : decode cX2_pathsAt 1 = .ok (.invokestatic 54, 3) := by decide +kernel
theorem dX2_pathsAt_4 : decode cX2_pathsAt 4 = .ok (.ifCond .eq 14, 3) := by decide +kernel
theorem dX2_pathsAt_7 : decode cX2_pathsAt 7 = .ok (.aload_n 0, 1) := by decide +kernel
theorem dX2_pathsAt_8 : decode cX2_pathsAt 8 = .ok (.getfield 30, 3) := by decide +kernel
theorem dX2_pathsAt_11 : decode cX2_pathsAt 11 = .ok (.iload_n 1, 1) := by decide +kernel
theorem dX2_pathsAt_12 : decode cX2_pathsAt 12 = .ok (.invokevirtual 58, 3) := by decide +kernel
theorem dX2_pathsAt_15 : decode cX2_pathsAt 15 = .ok (.goto 4, 3) := by decide +kernel
theorem dX2_pathsAt_18 : decode cX2_pathsAt 18 = .ok (.iconst 0, 1) := by decide +kernel
theorem dX2_pathsAt_19 : decode cX2_pathsAt 19 = .ok (.ireturn, 1) := by decide +kernel
theorem dX2_allPaths_0 : decode cX2_allPaths 0 = .ok (.iconst 1, 1) := by decide +kernel
theorem dX2_allPaths_1 : decode cX2_allPaths 1 = .ok (.aload_n 0, 1) := by decide +kernel
theorem dX2_allPaths_2 : decode cX2_allPaths 2 = .ok (.invokevirtual 37, 3) := by decide +kernel
theorem dX2_allPaths_5 : decode cX2_allPaths 5 = .ok (.ishl, 1) := by decide +kernel
theorem dX2_allPaths_6 : decode cX2_allPaths 6 = .ok (.iconst 1, 1) := by decide +kernel
theorem dX2_allPaths_7 : decode cX2_allPaths 7 = .ok (.isub, 1) := by decide +kernel
theorem dX2_allPaths_8 : decode cX2_allPaths 8 = .ok (.ireturn, 1) := by decide +kernel
theorem dX2_touches_0 : decode cX2_touches 0 = .ok (.aload_n 0, 1) := by decide +kernel
theorem dX2_touches_1 : decode cX2_touches 1 = .ok (.iload_n 2, 1) := by decide +kernel
theorem dX2_touches_2 : decode cX2_touches 2 = .ok (.invokevirtual 44, 3) := by decide +kernel
theorem dX2_touches_5 : decode cX2_touches 5 = .ok (.iload_n 1, 1) := by decide +kernel
theorem dX2_touches_6 : decode cX2_touches 6 = .ok (.invokestatic 47, 3) := by decide +kernel
theorem dX2_touches_9 : decode cX2_touches 9 = .ok (.iand, 1) := by decide +kernel
theorem dX2_touches_10 : decode cX2_touches 10 = .ok (.ifCond .eq 7, 3) := by decide +kernel
theorem dX2_touches_13 : decode cX2_touches 13 = .ok (.iconst 1, 1) := by decide +kernel
theorem dX2_touches_14 : decode cX2_touches 14 = .ok (.goto 4, 3) := by decide +kernel
theorem dX2_touches_17 : decode cX2_touches 17 = .ok (.iconst 0, 1) := by decide +kernel
theorem dX2_touches_18 : decode cX2_touches 18 = .ok (.ireturn, 1) := by decide +kernel
theorem dX2_joining_0 : decode cX2_joining 0 = .ok (.iload_n 1, 1) := by decide +kernel
theorem dX2_joining_1 : decode cX2_joining 1 = .ok (.iload_n 2, 1) := by decide +kernel
theorem dX2_joining_2 : decode cX2_joining 2 = .ok (.if_icmp .ne 7, 3) := by decide +kernel
theorem dX2_joining_5 : decode cX2_joining 5 = .ok (.iconst 0, 1) := by decide +kernel
theorem dX2_joining_6 : decode cX2_joining 6 = .ok (.goto 14, 3) := by decide +kernel
theorem dX2_joining_9 : decode cX2_joining 9 = .ok (.aload_n 0, 1) := by decide +kernel
theorem dX2_joining_10 : decode cX2_joining 10 = .ok (.iload_n 1, 1) := by decide +kernel
theorem dX2_joining_11 : decode cX2_joining 11 = .ok (.invokevirtual 44, 3) := by decide +kernel
theorem dX2_joining_14 : decode cX2_joining 14 = .ok (.aload_n 0, 1) := by decide +kernel
theorem dX2_joining_15 : decode cX2_joining 15 = .ok (.iload_n 2, 1) := by decide +kernel
theorem dX2_joining_16 : decode cX2_joining 16 = .ok (.invokevirtual 44, 3) := by decide +kernel
theorem dX2_joining_19 : decode cX2_joining 19 = .ok (.iand, 1) := by decide +kernel
theorem dX2_joining_20 : decode cX2_joining 20 = .ok (.istore_n 3, 1) := by decide +kernel
theorem dX2_joining_21 : decode cX2_joining 21 = .ok (.iload_n 3, 1) := by decide +kernel
theorem dX2_joining_22 : decode cX2_joining 22 = .ok (.ifCond .ne 7, 3) := by decide +kernel
theorem dX2_joining_25 : decode cX2_joining 25 = .ok (.iconst (-1), 1) := by decide +kernel
theorem dX2_joining_26 : decode cX2_joining 26 = .ok (.goto 9, 3) := by decide +kernel
theorem dX2_joining_29 : decode cX2_joining 29 = .ok (.iload_n 3, 1) := by decide +kernel
theorem dX2_joining_30 : decode cX2_joining 30 = .ok (.iconst 1, 1) := by decide +kernel
theorem dX2_joining_31 : decode cX2_joining 31 = .ok (.isub, 1) := by decide +kernel
theorem dX2_joining_32 : decode cX2_joining 32 = .ok (.invokestatic 61, 3) := by decide +kernel
theorem dX2_joining_35 : decode cX2_joining 35 = .ok (.ireturn, 1) := by decide +kernel
theorem dX2_lengthOf_0 : decode cX2_lengthOf 0 = .ok (.aload_n 0, 1) := by decide +kernel
theorem dX2_lengthOf_1 : decode cX2_lengthOf 1 = .ok (.getfield 23, 3) := by decide +kernel
theorem dX2_lengthOf_4 : decode cX2_lengthOf 4 = .ok (.iload_n 1, 1) := by decide +kernel
theorem dX2_lengthOf_5 : decode cX2_lengthOf 5 = .ok (.invokevirtual 58, 3) := by decide +kernel
theorem dX2_lengthOf_8 : decode cX2_lengthOf 8 = .ok (.ireturn, 1) := by decide +kernel
theorem dX2_arcFrom_0 : decode cX2_arcFrom 0 = .ok (.iconst 2, 1) := by decide +kernel
theorem dX2_arcFrom_1 : decode cX2_arcFrom 1 = .ok (.iload_n 2, 1) := by decide +kernel
theorem dX2_arcFrom_2 : decode cX2_arcFrom 2 = .ok (.imul, 1) := by decide +kernel
theorem dX2_arcFrom_3 : decode cX2_arcFrom 3 = .ok (.aload_n 0, 1) := by decide +kernel
theorem dX2_arcFrom_4 : decode cX2_arcFrom 4 = .ok (.getfield 14, 3) := by decide +kernel
theorem dX2_arcFrom_7 : decode cX2_arcFrom 7 = .ok (.iload_n 2, 1) := by decide +kernel
theorem dX2_arcFrom_8 : decode cX2_arcFrom 8 = .ok (.invokevirtual 58, 3) := by decide +kernel
theorem dX2_arcFrom_11 : decode cX2_arcFrom 11 = .ok (.iload_n 1, 1) := by decide +kernel
theorem dX2_arcFrom_12 : decode cX2_arcFrom 12 = .ok (.if_icmp .ne 7, 3) := by decide +kernel
theorem dX2_arcFrom_15 : decode cX2_arcFrom 15 = .ok (.iconst 1, 1) := by decide +kernel
theorem dX2_arcFrom_16 : decode cX2_arcFrom 16 = .ok (.goto 4, 3) := by decide +kernel
theorem dX2_arcFrom_19 : decode cX2_arcFrom 19 = .ok (.iconst 0, 1) := by decide +kernel
theorem dX2_arcFrom_20 : decode cX2_arcFrom 20 = .ok (.iadd, 1) := by decide +kernel
theorem dX2_arcFrom_21 : decode cX2_arcFrom 21 = .ok (.ireturn, 1) := by decide +kernel
theorem dX2_endOf_0 : decode cX2_endOf 0 = .ok (.iload_n 1, 1) := by decide +kernel
theorem dX2_endOf_1 : decode cX2_endOf 1 = .ok (.iconst 1, 1) := by decide +kernel
theorem dX2_endOf_2 : decode cX2_endOf 2 = .ok (.iand, 1) := by decide +kernel
theorem dX2_endOf_3 : decode cX2_endOf 3 = .ok (.ifCond .ne 16, 3) := by decide +kernel
theorem dX2_endOf_6 : decode cX2_endOf 6 = .ok (.aload_n 0, 1) := by decide +kernel
theorem dX2_endOf_7 : decode cX2_endOf 7 = .ok (.getfield 14, 3) := by decide +kernel
theorem dX2_endOf_10 : decode cX2_endOf 10 = .ok (.iload_n 1, 1) := by decide +kernel
theorem dX2_endOf_11 : decode cX2_endOf 11 = .ok (.iconst 1, 1) := by decide +kernel
theorem dX2_endOf_12 : decode cX2_endOf 12 = .ok (.ishr, 1) := by decide +kernel
theorem dX2_endOf_13 : decode cX2_endOf 13 = .ok (.invokevirtual 58, 3) := by decide +kernel
theorem dX2_endOf_16 : decode cX2_endOf 16 = .ok (.goto 13, 3) := by decide +kernel
theorem dX2_endOf_19 : decode cX2_endOf 19 = .ok (.aload_n 0, 1) := by decide +kernel
theorem dX2_endOf_20 : decode cX2_endOf 20 = .ok (.getfield 20, 3) := by decide +kernel
theorem dX2_endOf_23 : decode cX2_endOf 23 = .ok (.iload_n 1, 1) := by decide +kernel
theorem dX2_endOf_24 : decode cX2_endOf 24 = .ok (.iconst 1, 1) := by decide +kernel
theorem dX2_endOf_25 : decode cX2_endOf 25 = .ok (.ishr, 1) := by decide +kernel
theorem dX2_endOf_26 : decode cX2_endOf 26 = .ok (.invokevirtual 58, 3) := by decide +kernel
theorem dX2_endOf_29 : decode cX2_endOf 29 = .ok (.ireturn, 1) := by decide +kernel
theorem dX2_otherEnd_0 : decode cX2_otherEnd 0 = .ok (.aload_n 0, 1) := by decide +kernel
theorem dX2_otherEnd_1 : decode cX2_otherEnd 1 = .ok (.aload_n 0, 1) := by decide +kernel
theorem dX2_otherEnd_2 : decode cX2_otherEnd 2 = .ok (.iload_n 1, 1) := by decide +kernel
theorem dX2_otherEnd_3 : decode cX2_otherEnd 3 = .ok (.iload_n 2, 1) := by decide +kernel
theorem dX2_otherEnd_4 : decode cX2_otherEnd 4 = .ok (.invokevirtual 66, 3) := by decide +kernel
theorem dX2_otherEnd_7 : decode cX2_otherEnd 7 = .ok (.invokevirtual 70, 3) := by decide +kernel
theorem dX2_otherEnd_10 : decode cX2_otherEnd 10 = .ok (.ireturn, 1) := by decide +kernel
theorem dX3_init_0 : decode cX3_init 0 = .ok (.aload_n 0, 1) := by decide +kernel
theorem dX3_init_1 : decode cX3_init 1 = .ok (.invokespecial 3, 3) := by decide +kernel
theorem dX3_init_4 : decode cX3_init 4 = .ok (.aload_n 0, 1) := by decide +kernel
theorem dX3_init_5 : decode cX3_init 5 = .ok (.new 9, 3) := by decide +kernel
theorem dX3_init_8 : decode cX3_init 8 = .ok (.dup, 1) := by decide +kernel
theorem dX3_init_9 : decode cX3_init 9 = .ok (.bipush 8, 2) := by decide +kernel
theorem dX3_init_11 : decode cX3_init 11 = .ok (.invokespecial 13, 3) := by decide +kernel
theorem dX3_init_14 : decode cX3_init 14 = .ok (.putfield 16, 3) := by decide +kernel
theorem dX3_init_17 : decode cX3_init 17 = .ok (.aload_n 0, 1) := by decide +kernel
theorem dX3_init_18 : decode cX3_init 18 = .ok (.new 9, 3) := by decide +kernel
theorem dX3_init_21 : decode cX3_init 21 = .ok (.dup, 1) := by decide +kernel
theorem dX3_init_22 : decode cX3_init 22 = .ok (.sipush 256, 3) := by decide +kernel
theorem dX3_init_25 : decode cX3_init 25 = .ok (.invokespecial 13, 3) := by decide +kernel
theorem dX3_init_28 : decode cX3_init 28 = .ok (.invokevirtual 22, 3) := by decide +kernel
theorem dX3_init_31 : decode cX3_init 31 = .ok (.putfield 26, 3) := by decide +kernel
theorem dX3_init_34 : decode cX3_init 34 = .ok (.aload_n 0, 1) := by decide +kernel
theorem dX3_init_35 : decode cX3_init 35 = .ok (.aload_n 1, 1) := by decide +kernel
theorem dX3_init_36 : decode cX3_init 36 = .ok (.putfield 29, 3) := by decide +kernel
theorem dX3_init_39 : decode cX3_init 39 = .ok (.aload_n 0, 1) := by decide +kernel
theorem dX3_init_40 : decode cX3_init 40 = .ok (.aload_n 2, 1) := by decide +kernel
theorem dX3_init_41 : decode cX3_init 41 = .ok (.putfield 33, 3) := by decide +kernel
theorem dX3_init_44 : decode cX3_init 44 = .ok (.return_, 1) := by decide +kernel
theorem dX3_noteCount_0 : decode cX3_noteCount 0 = .ok (.aload_n 0, 1) := by decide +kernel
theorem dX3_noteCount_1 : decode cX3_noteCount 1 = .ok (.getfield 16, 3) := by decide +kernel
theorem dX3_noteCount_4 : decode cX3_noteCount 4 = .ok (.invokevirtual 37, 3) := by decide +kernel
theorem dX3_noteCount_7 : decode cX3_noteCount 7 = .ok (.ireturn, 1) := by decide +kernel
theorem dX3_takeDown_0 : decode cX3_takeDown 0 = .ok (.aload_n 0, 1) := by decide +kernel
theorem dX3_takeDown_1 : decode cX3_takeDown 1 = .ok (.getfield 16, 3) := by decide +kernel
theorem dX3_takeDown_4 : decode cX3_takeDown 4 = .ok (.iload_n 1, 1) := by decide +kernel
theorem dX3_takeDown_5 : decode cX3_takeDown 5 = .ok (.invokevirtual 41, 3) := by decide +kernel
theorem dX3_takeDown_8 : decode cX3_takeDown 8 = .ok (.ireturn, 1) := by decide +kernel
theorem dX3_dropAll_0 : decode cX3_dropAll 0 = .ok (.aload_n 0, 1) := by decide +kernel
theorem dX3_dropAll_1 : decode cX3_dropAll 1 = .ok (.getfield 16, 3) := by decide +kernel
theorem dX3_dropAll_4 : decode cX3_dropAll 4 = .ok (.invokevirtual 45, 3) := by decide +kernel
theorem dX3_dropAll_7 : decode cX3_dropAll 7 = .ok (.ireturn, 1) := by decide +kernel
theorem dX3_waysFrom_0 : decode cX3_waysFrom 0 = .ok (.aload_n 0, 1) := by decide +kernel
theorem dX3_waysFrom_1 : decode cX3_waysFrom 1 = .ok (.invokevirtual 48, 3) := by decide +kernel
theorem dX3_waysFrom_4 : decode cX3_waysFrom 4 = .ok (.ifCond .ne 5, 3) := by decide +kernel
theorem dX3_waysFrom_7 : decode cX3_waysFrom 7 = .ok (.iconst 1, 1) := by decide +kernel
theorem dX3_waysFrom_8 : decode cX3_waysFrom 8 = .ok (.ireturn, 1) := by decide +kernel
theorem dX3_waysFrom_9 : decode cX3_waysFrom 9 = .ok (.aload_n 0, 1) := by decide +kernel
theorem dX3_waysFrom_10 : decode cX3_waysFrom 10 = .ok (.invokevirtual 48, 3) := by decide +kernel
theorem dX3_waysFrom_13 : decode cX3_waysFrom 13 = .ok (.iconst 1, 1) := by decide +kernel
theorem dX3_waysFrom_14 : decode cX3_waysFrom 14 = .ok (.isub, 1) := by decide +kernel
theorem dX3_waysFrom_15 : decode cX3_waysFrom 15 = .ok (.istore_n 2, 1) := by decide +kernel
theorem dX3_waysFrom_16 : decode cX3_waysFrom 16 = .ok (.iload_n 2, 1) := by decide +kernel
theorem dX3_waysFrom_17 : decode cX3_waysFrom 17 = .ok (.iconst 1, 1) := by decide +kernel
theorem dX3_waysFrom_18 : decode cX3_waysFrom 18 = .ok (.if_icmp .lt 59, 3) := by decide +kernel
theorem dX3_waysFrom_21 : decode cX3_waysFrom 21 = .ok (.iconst 0, 1) := by decide +kernel
theorem dX3_waysFrom_22 : decode cX3_waysFrom 22 = .ok (.istore_n 3, 1) := by decide +kernel
theorem dX3_waysFrom_23 : decode cX3_waysFrom 23 = .ok (.iload_n 3, 1) := by decide +kernel
theorem dX3_waysFrom_24 : decode cX3_waysFrom 24 = .ok (.iconst 2, 1) := by decide +kernel
theorem dX3_waysFrom_25 : decode cX3_waysFrom 25 = .ok (.aload_n 0, 1) := by decide +kernel
theorem dX3_waysFrom_26 : decode cX3_waysFrom 26 = .ok (.getfield 29, 3) := by decide +kernel
theorem dX3_waysFrom_29 : decode cX3_waysFrom 29 = .ok (.invokevirtual 51, 3) := by decide +kernel
theorem dX3_waysFrom_32 : decode cX3_waysFrom 32 = .ok (.imul, 1) := by decide +kernel
theorem dX3_waysFrom_33 : decode cX3_waysFrom 33 = .ok (.if_icmp .ge 38, 3) := by decide +kernel
theorem dX3_waysFrom_36 : decode cX3_waysFrom 36 = .ok (.aload_n 0, 1) := by decide +kernel
theorem dX3_waysFrom_37 : decode cX3_waysFrom 37 = .ok (.getfield 26, 3) := by decide +kernel
theorem dX3_waysFrom_40 : decode cX3_waysFrom 40 = .ok (.iload_n 2, 1) := by decide +kernel
theorem dX3_waysFrom_41 : decode cX3_waysFrom 41 = .ok (.bipush 32, 2) := by decide +kernel
theorem dX3_waysFrom_43 : decode cX3_waysFrom 43 = .ok (.imul, 1) := by decide +kernel
theorem dX3_waysFrom_44 : decode cX3_waysFrom 44 = .ok (.iload_n 3, 1) := by decide +kernel
theorem dX3_waysFrom_45 : decode cX3_waysFrom 45 = .ok (.iadd, 1) := by decide +kernel
theorem dX3_waysFrom_46 : decode cX3_waysFrom 46 = .ok (.aload_n 0, 1) := by decide +kernel
theorem dX3_waysFrom_47 : decode cX3_waysFrom 47 = .ok (.iload_n 2, 1) := by decide +kernel
theorem dX3_waysFrom_48 : decode cX3_waysFrom 48 = .ok (.aload_n 0, 1) := by decide +kernel
theorem dX3_waysFrom_49 : decode cX3_waysFrom 49 = .ok (.getfield 29, 3) := by decide +kernel
theorem dX3_waysFrom_52 : decode cX3_waysFrom 52 = .ok (.iload_n 3, 1) := by decide +kernel
theorem dX3_waysFrom_53 : decode cX3_waysFrom 53 = .ok (.invokevirtual 54, 3) := by decide +kernel
theorem dX3_waysFrom_56 : decode cX3_waysFrom 56 = .ok (.iload_n 3, 1) := by decide +kernel
theorem dX3_waysFrom_57 : decode cX3_waysFrom 57 = .ok (.iconst 1, 1) := by decide +kernel
theorem dX3_waysFrom_58 : decode cX3_waysFrom 58 = .ok (.ishr, 1) := by decide +kernel
theorem dX3_waysFrom_59 : decode cX3_waysFrom 59 = .ok (.invokevirtual 57, 3) := by decide +kernel
theorem dX3_waysFrom_62 : decode cX3_waysFrom 62 = .ok (.invokevirtual 61, 3) := by decide +kernel
theorem dX3_waysFrom_65 : decode cX3_waysFrom 65 = .ok (.iinc 3 1, 3) := by decide +kernel
theorem dX3_waysFrom_68 : decode cX3_waysFrom 68 = .ok (.goto (-45), 3) := by decide +kernel
theorem dX3_waysFrom_71 : decode cX3_waysFrom 71 = .ok (.iinc 2 (-1), 3) := by decide +kernel
theorem dX3_waysFrom_74 : decode cX3_waysFrom 74 = .ok (.goto (-58), 3) := by decide +kernel
theorem dX3_waysFrom_77 : decode cX3_waysFrom 77 = .ok (.aload_n 0, 1) := by decide +kernel
theorem dX3_waysFrom_78 : decode cX3_waysFrom 78 = .ok (.iconst 0, 1) := by decide +kernel
theorem dX3_waysFrom_79 : decode cX3_waysFrom 79 = .ok (.iload_n 1, 1) := by decide +kernel
theorem dX3_waysFrom_80 : decode cX3_waysFrom 80 = .ok (.iconst (-1), 1) := by decide +kernel
theorem dX3_waysFrom_81 : decode cX3_waysFrom 81 = .ok (.invokevirtual 57, 3) := by decide +kernel
theorem dX3_waysFrom_84 : decode cX3_waysFrom 84 = .ok (.ireturn, 1) := by decide +kernel
end
section
theorem dX3_waysOn_0 : decode cX3_waysOn 0 = .ok (.aload_n 0, 1) := by decide +kernel
theorem dX3_waysOn_1 : decode cX3_waysOn 1 = .ok (.getfield 16, 3) := by decide +kernel
theorem dX3_waysOn_4 : decode cX3_waysOn 4 = .ok (.iload_n 1, 1) := by decide +kernel
theorem dX3_waysOn_5 : decode cX3_waysOn 5 = .ok (.invokevirtual 65, 3) := by decide +kernel
theorem dX3_waysOn_8 : decode cX3_waysOn 8 = .ok (.istore 4, 2) := by decide +kernel
theorem dX3_waysOn_10 : decode cX3_waysOn 10 = .ok (.iload 4, 2) := by decide +kernel
theorem dX3_waysOn_12 : decode cX3_waysOn 12 = .ok (.iconst (-1), 1) := by decide +kernel
theorem dX3_waysOn_13 : decode cX3_waysOn 13 = .ok (.if_icmp .eq 19, 3) := by decide +kernel
theorem dX3_waysOn_16 : decode cX3_waysOn 16 = .ok (.iload 4, 2) := by decide +kernel
theorem dX3_waysOn_18 : decode cX3_waysOn 18 = .ok (.aload_n 0, 1) := by decide +kernel
theorem dX3_waysOn_19 : decode cX3_waysOn 19 = .ok (.getfield 33, 3) := by decide +kernel
theorem dX3_waysOn_22 : decode cX3_waysOn 22 = .ok (.iload_n 2, 1) := by decide +kernel
theorem dX3_waysOn_23 : decode cX3_waysOn 23 = .ok (.iload_n 3, 1) := by decide +kernel
theorem dX3_waysOn_24 : decode cX3_waysOn 24 = .ok (.invokevirtual 68, 3) := by decide +kernel
theorem dX3_waysOn_27 : decode cX3_waysOn 27 = .ok (.if_icmp .eq 5, 3) := by decide +kernel
theorem dX3_waysOn_30 : decode cX3_waysOn 30 = .ok (.iconst 0, 1) := by decide +kernel
theorem dX3_waysOn_31 : decode cX3_waysOn 31 = .ok (.ireturn, 1) := by decide +kernel
theorem dX3_waysOn_32 : decode cX3_waysOn 32 = .ok (.iload_n 1, 1) := by decide +kernel
theorem dX3_waysOn_33 : decode cX3_waysOn 33 = .ok (.aload_n 0, 1) := by decide +kernel
theorem dX3_waysOn_34 : decode cX3_waysOn 34 = .ok (.invokevirtual 48, 3) := by decide +kernel
theorem dX3_waysOn_37 : decode cX3_waysOn 37 = .ok (.iconst 1, 1) := by decide +kernel
theorem dX3_waysOn_38 : decode cX3_waysOn 38 = .ok (.isub, 1) := by decide +kernel
theorem dX3_waysOn_39 : decode cX3_waysOn 39 = .ok (.if_icmp .ne 5, 3) := by decide +kernel
theorem dX3_waysOn_42 : decode cX3_waysOn 42 = .ok (.iconst 1, 1) := by decide +kernel
theorem dX3_waysOn_43 : decode cX3_waysOn 43 = .ok (.ireturn, 1) := by decide +kernel
theorem dX3_waysOn_44 : decode cX3_waysOn 44 = .ok (.aload_n 0, 1) := by decide +kernel
theorem dX3_waysOn_45 : decode cX3_waysOn 45 = .ok (.iload_n 2, 1) := by decide +kernel
theorem dX3_waysOn_46 : decode cX3_waysOn 46 = .ok (.iload_n 3, 1) := by decide +kernel
theorem dX3_waysOn_47 : decode cX3_waysOn 47 = .ok (.invokevirtual 74, 3) := by decide +kernel
theorem dX3_waysOn_50 : decode cX3_waysOn 50 = .ok (.istore 5, 2) := by decide +kernel
theorem dX3_waysOn_52 : decode cX3_waysOn 52 = .ok (.iconst 0, 1) := by decide +kernel
theorem dX3_waysOn_53 : decode cX3_waysOn 53 = .ok (.istore 6, 2) := by decide +kernel
theorem dX3_waysOn_55 : decode cX3_waysOn 55 = .ok (.iconst 0, 1) := by decide +kernel
theorem dX3_waysOn_56 : decode cX3_waysOn 56 = .ok (.istore 7, 2) := by decide +kernel
theorem dX3_waysOn_58 : decode cX3_waysOn 58 = .ok (.iload 7, 2) := by decide +kernel
theorem dX3_waysOn_60 : decode cX3_waysOn 60 = .ok (.aload_n 0, 1) := by decide +kernel
theorem dX3_waysOn_61 : decode cX3_waysOn 61 = .ok (.getfield 29, 3) := by decide +kernel
theorem dX3_waysOn_64 : decode cX3_waysOn 64 = .ok (.invokevirtual 51, 3) := by decide +kernel
theorem dX3_waysOn_67 : decode cX3_waysOn 67 = .ok (.if_icmp .ge 35, 3) := by decide +kernel
theorem dX3_waysOn_70 : decode cX3_waysOn 70 = .ok (.iload 5, 2) := by decide +kernel
theorem dX3_waysOn_72 : decode cX3_waysOn 72 = .ok (.iload 7, 2) := by decide +kernel
theorem dX3_waysOn_74 : decode cX3_waysOn 74 = .ok (.invokestatic 77, 3) := by decide +kernel
theorem dX3_waysOn_77 : decode cX3_waysOn 77 = .ok (.iand, 1) := by decide +kernel
theorem dX3_waysOn_78 : decode cX3_waysOn 78 = .ok (.ifCond .eq 18, 3) := by decide +kernel
theorem dX3_waysOn_81 : decode cX3_waysOn 81 = .ok (.iload 6, 2) := by decide +kernel
theorem dX3_waysOn_83 : decode cX3_waysOn 83 = .ok (.aload_n 0, 1) := by decide +kernel
theorem dX3_waysOn_84 : decode cX3_waysOn 84 = .ok (.iload_n 1, 1) := by decide +kernel
theorem dX3_waysOn_85 : decode cX3_waysOn 85 = .ok (.iconst 1, 1) := by decide +kernel
theorem dX3_waysOn_86 : decode cX3_waysOn 86 = .ok (.iadd, 1) := by decide +kernel
theorem dX3_waysOn_87 : decode cX3_waysOn 87 = .ok (.iload_n 2, 1) := by decide +kernel
theorem dX3_waysOn_88 : decode cX3_waysOn 88 = .ok (.iload 7, 2) := by decide +kernel
theorem dX3_waysOn_90 : decode cX3_waysOn 90 = .ok (.invokevirtual 80, 3) := by decide +kernel
theorem dX3_waysOn_93 : decode cX3_waysOn 93 = .ok (.iadd, 1) := by decide +kernel
theorem dX3_waysOn_94 : decode cX3_waysOn 94 = .ok (.istore 6, 2) := by decide +kernel
theorem dX3_waysOn_96 : decode cX3_waysOn 96 = .ok (.iinc 7 1, 3) := by decide +kernel
theorem dX3_waysOn_99 : decode cX3_waysOn 99 = .ok (.goto (-41), 3) := by decide +kernel
theorem dX3_waysOn_102 : decode cX3_waysOn 102 = .ok (.iload 6, 2) := by decide +kernel
theorem dX3_waysOn_104 : decode cX3_waysOn 104 = .ok (.ireturn, 1) := by decide +kernel
theorem dX3_exitsFrom_0 : decode cX3_exitsFrom 0 = .ok (.aload_n 0, 1) := by decide +kernel
theorem dX3_exitsFrom_1 : decode cX3_exitsFrom 1 = .ok (.getfield 29, 3) := by decide +kernel
theorem dX3_exitsFrom_4 : decode cX3_exitsFrom 4 = .ok (.iload_n 1, 1) := by decide +kernel
theorem dX3_exitsFrom_5 : decode cX3_exitsFrom 5 = .ok (.invokevirtual 83, 3) := by decide +kernel
theorem dX3_exitsFrom_8 : decode cX3_exitsFrom 8 = .ok (.iload_n 2, 1) := by decide +kernel
theorem dX3_exitsFrom_9 : decode cX3_exitsFrom 9 = .ok (.invokestatic 77, 3) := by decide +kernel
theorem dX3_exitsFrom_12 : decode cX3_exitsFrom 12 = .ok (.iconst (-1), 1) := by decide +kernel
theorem dX3_exitsFrom_13 : decode cX3_exitsFrom 13 = .ok (.ixor, 1) := by decide +kernel
theorem dX3_exitsFrom_14 : decode cX3_exitsFrom 14 = .ok (.iand, 1) := by decide +kernel
theorem dX3_exitsFrom_15 : decode cX3_exitsFrom 15 = .ok (.istore_n 3, 1) := by decide +kernel
theorem dX3_exitsFrom_16 : decode cX3_exitsFrom 16 = .ok (.iload_n 3, 1) := by decide +kernel
theorem dX3_exitsFrom_17 : decode cX3_exitsFrom 17 = .ok (.ifCond .ne 14, 3) := by decide +kernel
theorem dX3_exitsFrom_20 : decode cX3_exitsFrom 20 = .ok (.aload_n 0, 1) := by decide +kernel
theorem dX3_exitsFrom_21 : decode cX3_exitsFrom 21 = .ok (.getfield 29, 3) := by decide +kernel
theorem dX3_exitsFrom_24 : decode cX3_exitsFrom 24 = .ok (.iload_n 1, 1) := by decide +kernel
theorem dX3_exitsFrom_25 : decode cX3_exitsFrom 25 = .ok (.invokevirtual 83, 3) := by decide +kernel
theorem dX3_exitsFrom_28 : decode cX3_exitsFrom 28 = .ok (.goto 4, 3) := by decide +kernel
theorem dX3_exitsFrom_31 : decode cX3_exitsFrom 31 = .ok (.iload_n 3, 1) := by decide +kernel
theorem dX3_exitsFrom_32 : decode cX3_exitsFrom 32 = .ok (.ireturn, 1) := by decide +kernel
theorem dX3_waysBehind_0 : decode cX3_waysBehind 0 = .ok (.aload_n 0, 1) := by decide +kernel
theorem dX3_waysBehind_1 : decode cX3_waysBehind 1 = .ok (.getfield 26, 3) := by decide +kernel
theorem dX3_waysBehind_4 : decode cX3_waysBehind 4 = .ok (.iload_n 1, 1) := by decide +kernel
theorem dX3_waysBehind_5 : decode cX3_waysBehind 5 = .ok (.bipush 32, 2) := by decide +kernel
theorem dX3_waysBehind_7 : decode cX3_waysBehind 7 = .ok (.imul, 1) := by decide +kernel
theorem dX3_waysBehind_8 : decode cX3_waysBehind 8 = .ok (.aload_n 0, 1) := by decide +kernel
theorem dX3_waysBehind_9 : decode cX3_waysBehind 9 = .ok (.getfield 29, 3) := by decide +kernel
theorem dX3_waysBehind_12 : decode cX3_waysBehind 12 = .ok (.iload_n 2, 1) := by decide +kernel
theorem dX3_waysBehind_13 : decode cX3_waysBehind 13 = .ok (.iload_n 3, 1) := by decide +kernel
theorem dX3_waysBehind_14 : decode cX3_waysBehind 14 = .ok (.invokevirtual 86, 3) := by decide +kernel
theorem dX3_waysBehind_17 : decode cX3_waysBehind 17 = .ok (.iadd, 1) := by decide +kernel
theorem dX3_waysBehind_18 : decode cX3_waysBehind 18 = .ok (.invokevirtual 65, 3) := by decide +kernel
theorem dX3_waysBehind_21 : decode cX3_waysBehind 21 = .ok (.ireturn, 1) := by decide +kernel
theorem dX3_placeOnTheWay_0 : decode cX3_placeOnTheWay 0 = .ok (.iload_n 2, 1) := by decide +kernel
theorem dX3_placeOnTheWay_1 : decode cX3_placeOnTheWay 1 = .ok (.ifCond .lt 11, 3) := by decide +kernel
theorem dX3_placeOnTheWay_4 : decode cX3_placeOnTheWay 4 = .ok (.iload_n 2, 1) := by decide +kernel
theorem dX3_placeOnTheWay_5 : decode cX3_placeOnTheWay 5 = .ok (.aload_n 0, 1) := by decide +kernel
theorem dX3_placeOnTheWay_6 : decode cX3_placeOnTheWay 6 = .ok (.invokevirtual 48, 3) := by decide +kernel
theorem dX3_placeOnTheWay_9 : decode cX3_placeOnTheWay 9 = .ok (.if_icmp .lt 5, 3) := by decide +kernel
theorem dX3_placeOnTheWay_12 : decode cX3_placeOnTheWay 12 = .ok (.iconst (-1), 1) := by decide +kernel
theorem dX3_placeOnTheWay_13 : decode cX3_placeOnTheWay 13 = .ok (.ireturn, 1) := by decide +kernel
theorem dX3_placeOnTheWay_14 : decode cX3_placeOnTheWay 14 = .ok (.iload_n 1, 1) := by decide +kernel
theorem dX3_placeOnTheWay_15 : decode cX3_placeOnTheWay 15 = .ok (.istore_n 3, 1) := by decide +kernel
theorem dX3_placeOnTheWay_16 : decode cX3_placeOnTheWay 16 = .ok (.iconst (-1), 1) := by decide +kernel
theorem dX3_placeOnTheWay_17 : decode cX3_placeOnTheWay 17 = .ok (.istore 4, 2) := by decide +kernel
theorem dX3_placeOnTheWay_19 : decode cX3_placeOnTheWay 19 = .ok (.iconst 1, 1) := by decide +kernel
theorem dX3_placeOnTheWay_20 : decode cX3_placeOnTheWay 20 = .ok (.istore 5, 2) := by decide +kernel
theorem dX3_placeOnTheWay_22 : decode cX3_placeOnTheWay 22 = .ok (.iload 5, 2) := by decide +kernel
theorem dX3_placeOnTheWay_24 : decode cX3_placeOnTheWay 24 = .ok (.iload_n 2, 1) := by decide +kernel
theorem dX3_placeOnTheWay_25 : decode cX3_placeOnTheWay 25 = .ok (.if_icmp .gt 39, 3) := by decide +kernel
theorem dX3_placeOnTheWay_28 : decode cX3_placeOnTheWay 28 = .ok (.aload_n 0, 1) := by decide +kernel
theorem dX3_placeOnTheWay_29 : decode cX3_placeOnTheWay 29 = .ok (.iload 5, 2) := by decide +kernel
theorem dX3_placeOnTheWay_31 : decode cX3_placeOnTheWay 31 = .ok (.iload_n 3, 1) := by decide +kernel
theorem dX3_placeOnTheWay_32 : decode cX3_placeOnTheWay 32 = .ok (.iload 4, 2) := by decide +kernel
theorem dX3_placeOnTheWay_34 : decode cX3_placeOnTheWay 34 = .ok (.invokevirtual 89, 3) := by decide +kernel
theorem dX3_placeOnTheWay_37 : decode cX3_placeOnTheWay 37 = .ok (.istore 4, 2) := by decide +kernel
theorem dX3_placeOnTheWay_39 : decode cX3_placeOnTheWay 39 = .ok (.iload 4, 2) := by decide +kernel
theorem dX3_placeOnTheWay_41 : decode cX3_placeOnTheWay 41 = .ok (.iconst (-1), 1) := by decide +kernel
theorem dX3_placeOnTheWay_42 : decode cX3_placeOnTheWay 42 = .ok (.if_icmp .ne 5, 3) := by decide +kernel
theorem dX3_placeOnTheWay_45 : decode cX3_placeOnTheWay 45 = .ok (.iconst (-1), 1) := by decide +kernel
theorem dX3_placeOnTheWay_46 : decode cX3_placeOnTheWay 46 = .ok (.ireturn, 1) := by decide +kernel
theorem dX3_placeOnTheWay_47 : decode cX3_placeOnTheWay 47 = .ok (.aload_n 0, 1) := by decide +kernel
theorem dX3_placeOnTheWay_48 : decode cX3_placeOnTheWay 48 = .ok (.getfield 29, 3) := by decide +kernel
theorem dX3_placeOnTheWay_51 : decode cX3_placeOnTheWay 51 = .ok (.iload_n 3, 1) := by decide +kernel
theorem dX3_placeOnTheWay_52 : decode cX3_placeOnTheWay 52 = .ok (.iload 4, 2) := by decide +kernel
theorem dX3_placeOnTheWay_54 : decode cX3_placeOnTheWay 54 = .ok (.invokevirtual 92, 3) := by decide +kernel
theorem dX3_placeOnTheWay_57 : decode cX3_placeOnTheWay 57 = .ok (.istore_n 3, 1) := by decide +kernel
theorem dX3_placeOnTheWay_58 : decode cX3_placeOnTheWay 58 = .ok (.iinc 5 1, 3) := by decide +kernel
theorem dX3_placeOnTheWay_61 : decode cX3_placeOnTheWay 61 = .ok (.goto (-39), 3) := by decide +kernel
theorem dX3_placeOnTheWay_64 : decode cX3_placeOnTheWay 64 = .ok (.iload_n 3, 1) := by decide +kernel
theorem dX3_placeOnTheWay_65 : decode cX3_placeOnTheWay 65 = .ok (.ireturn, 1) := by decide +kernel
theorem dX3_pathOn_0 : decode cX3_pathOn 0 = .ok (.aload_n 0, 1) := by decide +kernel
theorem dX3_pathOn_1 : decode cX3_pathOn 1 = .ok (.iload_n 2, 1) := by decide +kernel
theorem dX3_pathOn_2 : decode cX3_pathOn 2 = .ok (.iload_n 3, 1) := by decide +kernel
theorem dX3_pathOn_3 : decode cX3_pathOn 3 = .ok (.invokevirtual 74, 3) := by decide +kernel
theorem dX3_pathOn_6 : decode cX3_pathOn 6 = .ok (.istore 4, 2) := by decide +kernel
theorem dX3_pathOn_8 : decode cX3_pathOn 8 = .ok (.iconst 0, 1) := by decide +kernel
theorem dX3_pathOn_9 : decode cX3_pathOn 9 = .ok (.istore 5, 2) := by decide +kernel
theorem dX3_pathOn_11 : decode cX3_pathOn 11 = .ok (.iload 5, 2) := by decide +kernel
theorem dX3_pathOn_13 : decode cX3_pathOn 13 = .ok (.aload_n 0, 1) := by decide +kernel
theorem dX3_pathOn_14 : decode cX3_pathOn 14 = .ok (.getfield 29, 3) := by decide +kernel
theorem dX3_pathOn_17 : decode cX3_pathOn 17 = .ok (.invokevirtual 51, 3) := by decide +kernel
theorem dX3_pathOn_20 : decode cX3_pathOn 20 = .ok (.if_icmp .ge 34, 3) := by decide +kernel
theorem dX3_pathOn_23 : decode cX3_pathOn 23 = .ok (.iload 4, 2) := by decide +kernel
theorem dX3_pathOn_25 : decode cX3_pathOn 25 = .ok (.iload 5, 2) := by decide +kernel
theorem dX3_pathOn_27 : decode cX3_pathOn 27 = .ok (.invokestatic 77, 3) := by decide +kernel
theorem dX3_pathOn_30 : decode cX3_pathOn 30 = .ok (.iand, 1) := by decide +kernel
theorem dX3_pathOn_31 : decode cX3_pathOn 31 = .ok (.ifCond .eq 17, 3) := by decide +kernel
theorem dX3_pathOn_34 : decode cX3_pathOn 34 = .ok (.aload_n 0, 1) := by decide +kernel
theorem dX3_pathOn_35 : decode cX3_pathOn 35 = .ok (.iload_n 1, 1) := by decide +kernel
theorem dX3_pathOn_36 : decode cX3_pathOn 36 = .ok (.iload_n 2, 1) := by decide +kernel
theorem dX3_pathOn_37 : decode cX3_pathOn 37 = .ok (.iload 5, 2) := by decide +kernel
theorem dX3_pathOn_39 : decode cX3_pathOn 39 = .ok (.invokevirtual 80, 3) := by decide +kernel
theorem dX3_pathOn_42 : decode cX3_pathOn 42 = .ok (.ifCond .le 6, 3) := by decide +kernel
theorem dX3_pathOn_45 : decode cX3_pathOn 45 = .ok (.iload 5, 2) := by decide +kernel
theorem dX3_pathOn_47 : decode cX3_pathOn 47 = .ok (.ireturn, 1) := by decide +kernel
theorem dX3_pathOn_48 : decode cX3_pathOn 48 = .ok (.iinc 5 1, 3) := by decide +kernel
theorem dX3_pathOn_51 : decode cX3_pathOn 51 = .ok (.goto (-40), 3) := by decide +kernel
theorem dX3_pathOn_54 : decode cX3_pathOn 54 = .ok (.iconst (-1), 1) := by decide +kernel
theorem dX3_pathOn_55 : decode cX3_pathOn 55 = .ok (.ireturn, 1) := by decide +kernel
theorem dX4_init_0 : decode cX4_init 0 = .ok (.aload_n 0, 1) := by decide +kernel
theorem dX4_init_1 : decode cX4_init 1 = .ok (.invokespecial 3, 3) := by decide +kernel
theorem dX4_init_4 : decode cX4_init 4 = .ok (.aload_n 0, 1) := by decide +kernel
theorem dX4_init_5 : decode cX4_init 5 = .ok (.new 9, 3) := by decide +kernel
theorem dX4_init_8 : decode cX4_init 8 = .ok (.dup, 1) := by decide +kernel
theorem dX4_init_9 : decode cX4_init 9 = .ok (.bipush 10, 2) := by decide +kernel
theorem dX4_init_11 : decode cX4_init 11 = .ok (.invokespecial 13, 3) := by decide +kernel
theorem dX4_init_14 : decode cX4_init 14 = .ok (.putfield 16, 3) := by decide +kernel
theorem dX4_init_17 : decode cX4_init 17 = .ok (.aload_n 0, 1) := by decide +kernel
theorem dX4_init_18 : decode cX4_init 18 = .ok (.iconst 0, 1) := by decide +kernel
theorem dX4_init_19 : decode cX4_init 19 = .ok (.putfield 20, 3) := by decide +kernel
theorem dX4_init_22 : decode cX4_init 22 = .ok (.aload_n 0, 1) := by decide +kernel
theorem dX4_init_23 : decode cX4_init 23 = .ok (.aload_n 1, 1) := by decide +kernel
theorem dX4_init_24 : decode cX4_init 24 = .ok (.putfield 24, 3) := by decide +kernel
theorem dX4_init_27 : decode cX4_init 27 = .ok (.aload_n 0, 1) := by decide +kernel
theorem dX4_init_28 : decode cX4_init 28 = .ok (.aload_n 2, 1) := by decide +kernel
theorem dX4_init_29 : decode cX4_init 29 = .ok (.putfield 28, 3) := by decide +kernel
theorem dX4_init_32 : decode cX4_init 32 = .ok (.return_, 1) := by decide +kernel
theorem dX4_placeCount_0 : decode cX4_placeCount 0 = .ok (.aload_n 0, 1) := by decide +kernel
theorem dX4_placeCount_1 : decode cX4_placeCount 1 = .ok (.getfield 16, 3) := by decide +kernel
theorem dX4_placeCount_4 : decode cX4_placeCount 4 = .ok (.invokevirtual 32, 3) := by decide +kernel
theorem dX4_placeCount_7 : decode cX4_placeCount 7 = .ok (.ireturn, 1) := by decide +kernel
theorem dX4_passes_0 : decode cX4_passes 0 = .ok (.aload_n 0, 1) := by decide +kernel
theorem dX4_passes_1 : decode cX4_passes 1 = .ok (.getfield 16, 3) := by decide +kernel
theorem dX4_passes_4 : decode cX4_passes 4 = .ok (.iload_n 1, 1) := by decide +kernel
theorem dX4_passes_5 : decode cX4_passes 5 = .ok (.invokevirtual 36, 3) := by decide +kernel
theorem dX4_passes_8 : decode cX4_passes 8 = .ok (.ireturn, 1) := by decide +kernel
theorem dX4_changeLeeway_0 : decode cX4_changeLeeway 0 = .ok (.aload_n 0, 1) := by decide +kernel
theorem dX4_changeLeeway_1 : decode cX4_changeLeeway 1 = .ok (.getfield 20, 3) := by decide +kernel
theorem dX4_changeLeeway_4 : decode cX4_changeLeeway 4 = .ok (.istore_n 2, 1) := by decide +kernel
theorem dX4_changeLeeway_5 : decode cX4_changeLeeway 5 = .ok (.aload_n 0, 1) := by decide +kernel
theorem dX4_changeLeeway_6 : decode cX4_changeLeeway 6 = .ok (.iload_n 1, 1) := by decide +kernel
theorem dX4_changeLeeway_7 : decode cX4_changeLeeway 7 = .ok (.putfield 20, 3) := by decide +kernel
theorem dX4_changeLeeway_10 : decode cX4_changeLeeway 10 = .ok (.iload_n 2, 1) := by decide +kernel
theorem dX4_changeLeeway_11 : decode cX4_changeLeeway 11 = .ok (.ireturn, 1) := by decide +kernel
theorem dX4_mayGoOnTo_0 : decode cX4_mayGoOnTo 0 = .ok (.aload_n 0, 1) := by decide +kernel
theorem dX4_mayGoOnTo_1 : decode cX4_mayGoOnTo 1 = .ok (.invokevirtual 40, 3) := by decide +kernel
theorem dX4_mayGoOnTo_4 : decode cX4_mayGoOnTo 4 = .ok (.ifCond .eq 36, 3) := by decide +kernel
theorem dX4_mayGoOnTo_7 : decode cX4_mayGoOnTo 7 = .ok (.aload_n 0, 1) := by decide +kernel
theorem dX4_mayGoOnTo_8 : decode cX4_mayGoOnTo 8 = .ok (.iload_n 1, 1) := by decide +kernel
theorem dX4_mayGoOnTo_9 : decode cX4_mayGoOnTo 9 = .ok (.invokevirtual 43, 3) := by decide +kernel
theorem dX4_mayGoOnTo_12 : decode cX4_mayGoOnTo 12 = .ok (.ifCond .ne 32, 3) := by decide +kernel
theorem dX4_mayGoOnTo_15 : decode cX4_mayGoOnTo 15 = .ok (.aload_n 0, 1) := by decide +kernel
theorem dX4_mayGoOnTo_16 : decode cX4_mayGoOnTo 16 = .ok (.getfield 24, 3) := by decide +kernel
theorem dX4_mayGoOnTo_19 : decode cX4_mayGoOnTo 19 = .ok (.aload_n 0, 1) := by decide +kernel
theorem dX4_mayGoOnTo_20 : decode cX4_mayGoOnTo 20 = .ok (.getfield 16, 3) := by decide +kernel
theorem dX4_mayGoOnTo_23 : decode cX4_mayGoOnTo 23 = .ok (.aload_n 0, 1) := by decide +kernel
theorem dX4_mayGoOnTo_24 : decode cX4_mayGoOnTo 24 = .ok (.invokevirtual 40, 3) := by decide +kernel
theorem dX4_mayGoOnTo_27 : decode cX4_mayGoOnTo 27 = .ok (.iconst 1, 1) := by decide +kernel
theorem dX4_mayGoOnTo_28 : decode cX4_mayGoOnTo 28 = .ok (.isub, 1) := by decide +kernel
theorem dX4_mayGoOnTo_29 : decode cX4_mayGoOnTo 29 = .ok (.invokevirtual 46, 3) := by decide +kernel
theorem dX4_mayGoOnTo_32 : decode cX4_mayGoOnTo 32 = .ok (.iload_n 1, 1) := by decide +kernel
theorem dX4_mayGoOnTo_33 : decode cX4_mayGoOnTo 33 = .ok (.invokevirtual 50, 3) := by decide +kernel
theorem dX4_mayGoOnTo_36 : decode cX4_mayGoOnTo 36 = .ok (.iconst (-1), 1) := by decide +kernel
theorem dX4_mayGoOnTo_37 : decode cX4_mayGoOnTo 37 = .ok (.if_icmp .eq 7, 3) := by decide +kernel
theorem dX4_mayGoOnTo_40 : decode cX4_mayGoOnTo 40 = .ok (.iconst 1, 1) := by decide +kernel
theorem dX4_mayGoOnTo_41 : decode cX4_mayGoOnTo 41 = .ok (.goto 4, 3) := by decide +kernel
theorem dX4_mayGoOnTo_44 : decode cX4_mayGoOnTo 44 = .ok (.iconst 0, 1) := by decide +kernel
theorem dX4_mayGoOnTo_45 : decode cX4_mayGoOnTo 45 = .ok (.ireturn, 1) := by decide +kernel
theorem dX4_goOnTo_0 : decode cX4_goOnTo 0 = .ok (.aload_n 0, 1) := by decide +kernel
theorem dX4_goOnTo_1 : decode cX4_goOnTo 1 = .ok (.getfield 16, 3) := by decide +kernel
theorem dX4_goOnTo_4 : decode cX4_goOnTo 4 = .ok (.iload_n 1, 1) := by decide +kernel
theorem dX4_goOnTo_5 : decode cX4_goOnTo 5 = .ok (.invokevirtual 56, 3) := by decide +kernel
theorem dX4_goOnTo_8 : decode cX4_goOnTo 8 = .ok (.ireturn, 1) := by decide +kernel
theorem dX4_dropAll_0 : decode cX4_dropAll 0 = .ok (.aload_n 0, 1) := by decide +kernel
theorem dX4_dropAll_1 : decode cX4_dropAll 1 = .ok (.getfield 16, 3) := by decide +kernel
theorem dX4_dropAll_4 : decode cX4_dropAll 4 = .ok (.invokevirtual 59, 3) := by decide +kernel
theorem dX4_dropAll_7 : decode cX4_dropAll 7 = .ok (.ireturn, 1) := by decide +kernel
theorem dX4_marksNeeded_0 : decode cX4_marksNeeded 0 = .ok (.iload_n 1, 1) := by decide +kernel
theorem dX4_marksNeeded_1 : decode cX4_marksNeeded 1 = .ok (.ifCond .ne 7, 3) := by decide +kernel
theorem dX4_marksNeeded_4 : decode cX4_marksNeeded 4 = .ok (.iconst 1, 1) := by decide +kernel
theorem dX4_marksNeeded_5 : decode cX4_marksNeeded 5 = .ok (.goto 4, 3) := by decide +kernel
theorem dX4_marksNeeded_8 : decode cX4_marksNeeded 8 = .ok (.iconst (-1), 1) := by decide +kernel
theorem dX4_marksNeeded_9 : decode cX4_marksNeeded 9 = .ok (.istore_n 2, 1) := by decide +kernel
theorem dX4_marksNeeded_10 : decode cX4_marksNeeded 10 = .ok (.iconst 0, 1) := by decide +kernel
theorem dX4_marksNeeded_11 : decode cX4_marksNeeded 11 = .ok (.istore_n 3, 1) := by decide +kernel
theorem dX4_marksNeeded_12 : decode cX4_marksNeeded 12 = .ok (.iconst 0, 1) := by decide +kernel
theorem dX4_marksNeeded_13 : decode cX4_marksNeeded 13 = .ok (.istore 4, 2) := by decide +kernel
theorem dX4_marksNeeded_15 : decode cX4_marksNeeded 15 = .ok (.iload 4, 2) := by decide +kernel
theorem dX4_marksNeeded_17 : decode cX4_marksNeeded 17 = .ok (.aload_n 0, 1) := by decide +kernel
theorem dX4_marksNeeded_18 : decode cX4_marksNeeded 18 = .ok (.invokevirtual 40, 3) := by decide +kernel
theorem dX4_marksNeeded_21 : decode cX4_marksNeeded 21 = .ok (.if_icmp .ge 106, 3) := by decide +kernel
theorem dX4_marksNeeded_24 : decode cX4_marksNeeded 24 = .ok (.aload_n 0, 1) := by decide +kernel
theorem dX4_marksNeeded_25 : decode cX4_marksNeeded 25 = .ok (.getfield 16, 3) := by decide +kernel
theorem dX4_marksNeeded_28 : decode cX4_marksNeeded 28 = .ok (.iload 4, 2) := by decide +kernel
theorem dX4_marksNeeded_30 : decode cX4_marksNeeded 30 = .ok (.invokevirtual 46, 3) := by decide +kernel
theorem dX4_marksNeeded_33 : decode cX4_marksNeeded 33 = .ok (.istore 5, 2) := by decide +kernel
theorem dX4_marksNeeded_35 : decode cX4_marksNeeded 35 = .ok (.aload_n 0, 1) := by decide +kernel
theorem dX4_marksNeeded_36 : decode cX4_marksNeeded 36 = .ok (.getfield 24, 3) := by decide +kernel
theorem dX4_marksNeeded_39 : decode cX4_marksNeeded 39 = .ok (.iload 5, 2) := by decide +kernel
theorem dX4_marksNeeded_41 : decode cX4_marksNeeded 41 = .ok (.aload_n 0, 1) := by decide +kernel
theorem dX4_marksNeeded_42 : decode cX4_marksNeeded 42 = .ok (.getfield 16, 3) := by decide +kernel
theorem dX4_marksNeeded_45 : decode cX4_marksNeeded 45 = .ok (.iload 4, 2) := by decide +kernel
theorem dX4_marksNeeded_47 : decode cX4_marksNeeded 47 = .ok (.iload_n 2, 1) := by decide +kernel
theorem dX4_marksNeeded_48 : decode cX4_marksNeeded 48 = .ok (.iadd, 1) := by decide +kernel
theorem dX4_marksNeeded_49 : decode cX4_marksNeeded 49 = .ok (.invokevirtual 46, 3) := by decide +kernel
theorem dX4_marksNeeded_52 : decode cX4_marksNeeded 52 = .ok (.invokevirtual 50, 3) := by decide +kernel
theorem dX4_marksNeeded_55 : decode cX4_marksNeeded 55 = .ok (.istore 6, 2) := by decide +kernel
theorem dX4_marksNeeded_57 : decode cX4_marksNeeded 57 = .ok (.aload_n 0, 1) := by decide +kernel
theorem dX4_marksNeeded_58 : decode cX4_marksNeeded 58 = .ok (.getfield 24, 3) := by decide +kernel
theorem dX4_marksNeeded_61 : decode cX4_marksNeeded 61 = .ok (.iload 5, 2) := by decide +kernel
theorem dX4_marksNeeded_63 : decode cX4_marksNeeded 63 = .ok (.aload_n 0, 1) := by decide +kernel
theorem dX4_marksNeeded_64 : decode cX4_marksNeeded 64 = .ok (.getfield 16, 3) := by decide +kernel
theorem dX4_marksNeeded_67 : decode cX4_marksNeeded 67 = .ok (.iload 4, 2) := by decide +kernel
theorem dX4_marksNeeded_69 : decode cX4_marksNeeded 69 = .ok (.iload_n 2, 1) := by decide +kernel
theorem dX4_marksNeeded_70 : decode cX4_marksNeeded 70 = .ok (.isub, 1) := by decide +kernel
theorem dX4_marksNeeded_71 : decode cX4_marksNeeded 71 = .ok (.invokevirtual 46, 3) := by decide +kernel
theorem dX4_marksNeeded_74 : decode cX4_marksNeeded 74 = .ok (.invokevirtual 50, 3) := by decide +kernel
theorem dX4_marksNeeded_77 : decode cX4_marksNeeded 77 = .ok (.istore 7, 2) := by decide +kernel
theorem dX4_marksNeeded_79 : decode cX4_marksNeeded 79 = .ok (.iload 6, 2) := by decide +kernel
theorem dX4_marksNeeded_81 : decode cX4_marksNeeded 81 = .ok (.iconst (-1), 1) := by decide +kernel
theorem dX4_marksNeeded_82 : decode cX4_marksNeeded 82 = .ok (.if_icmp .eq 39, 3) := by decide +kernel
theorem dX4_marksNeeded_85 : decode cX4_marksNeeded 85 = .ok (.aload_n 0, 1) := by decide +kernel
theorem dX4_marksNeeded_86 : decode cX4_marksNeeded 86 = .ok (.iload 5, 2) := by decide +kernel
theorem dX4_marksNeeded_88 : decode cX4_marksNeeded 88 = .ok (.iload 7, 2) := by decide +kernel
theorem dX4_marksNeeded_90 : decode cX4_marksNeeded 90 = .ok (.iload 6, 2) := by decide +kernel
theorem dX4_marksNeeded_92 : decode cX4_marksNeeded 92 = .ok (.invokevirtual 62, 3) := by decide +kernel
theorem dX4_marksNeeded_95 : decode cX4_marksNeeded 95 = .ok (.ifCond .eq 26, 3) := by decide +kernel
theorem dX4_marksNeeded_98 : decode cX4_marksNeeded 98 = .ok (.aload_n 0, 1) := by decide +kernel
theorem dX4_marksNeeded_99 : decode cX4_marksNeeded 99 = .ok (.getfield 28, 3) := by decide +kernel
theorem dX4_marksNeeded_102 : decode cX4_marksNeeded 102 = .ok (.iload 5, 2) := by decide +kernel
theorem dX4_marksNeeded_104 : decode cX4_marksNeeded 104 = .ok (.iload 7, 2) := by decide +kernel
theorem dX4_marksNeeded_106 : decode cX4_marksNeeded 106 = .ok (.invokevirtual 66, 3) := by decide +kernel
theorem dX4_marksNeeded_109 : decode cX4_marksNeeded 109 = .ok (.iload 6, 2) := by decide +kernel
theorem dX4_marksNeeded_111 : decode cX4_marksNeeded 111 = .ok (.if_icmp .eq 10, 3) := by decide +kernel
theorem dX4_marksNeeded_114 : decode cX4_marksNeeded 114 = .ok (.iload_n 3, 1) := by decide +kernel
theorem dX4_marksNeeded_115 : decode cX4_marksNeeded 115 = .ok (.iconst 1, 1) := by decide +kernel
theorem dX4_marksNeeded_116 : decode cX4_marksNeeded 116 = .ok (.iload 5, 2) := by decide +kernel
theorem dX4_marksNeeded_118 : decode cX4_marksNeeded 118 = .ok (.ishl, 1) := by decide +kernel
theorem dX4_marksNeeded_119 : decode cX4_marksNeeded 119 = .ok (.ior, 1) := by decide +kernel
theorem dX4_marksNeeded_120 : decode cX4_marksNeeded 120 = .ok (.istore_n 3, 1) := by decide +kernel
theorem dX4_marksNeeded_121 : decode cX4_marksNeeded 121 = .ok (.iinc 4 1, 3) := by decide +kernel
theorem dX4_marksNeeded_124 : decode cX4_marksNeeded 124 = .ok (.goto (-109), 3) := by decide +kernel
theorem dX4_marksNeeded_127 : decode cX4_marksNeeded 127 = .ok (.iload_n 3, 1) := by decide +kernel
theorem dX4_marksNeeded_128 : decode cX4_marksNeeded 128 = .ok (.ireturn, 1) := by decide +kernel
theorem dX4_mayGoBadlyWrong_0 : decode cX4_mayGoBadlyWrong 0 = .ok (.aload_n 0, 1) := by decide +kernel
theorem dX4_mayGoBadlyWrong_1 : decode cX4_mayGoBadlyWrong 1 = .ok (.getfield 24, 3) := by decide +kernel
theorem dX4_mayGoBadlyWrong_4 : decode cX4_mayGoBadlyWrong 4 = .ok (.iload_n 1, 1) := by decide +kernel
theorem dX4_mayGoBadlyWrong_5 : decode cX4_mayGoBadlyWrong 5 = .ok (.invokevirtual 71, 3) := by decide +kernel
theorem dX4_mayGoBadlyWrong_8 : decode cX4_mayGoBadlyWrong 8 = .ok (.iload_n 2, 1) := by decide +kernel
theorem dX4_mayGoBadlyWrong_9 : decode cX4_mayGoBadlyWrong 9 = .ok (.invokestatic 74, 3) := by decide +kernel
theorem dX4_mayGoBadlyWrong_12 : decode cX4_mayGoBadlyWrong 12 = .ok (.iconst (-1), 1) := by decide +kernel
theorem dX4_mayGoBadlyWrong_13 : decode cX4_mayGoBadlyWrong 13 = .ok (.ixor, 1) := by decide +kernel
theorem dX4_mayGoBadlyWrong_14 : decode cX4_mayGoBadlyWrong 14 = .ok (.iand, 1) := by decide +kernel
theorem dX4_mayGoBadlyWrong_15 : decode cX4_mayGoBadlyWrong 15 = .ok (.iload_n 3, 1) := by decide +kernel
theorem dX4_mayGoBadlyWrong_16 : decode cX4_mayGoBadlyWrong 16 = .ok (.invokestatic 74, 3) := by decide +kernel
theorem dX4_mayGoBadlyWrong_19 : decode cX4_mayGoBadlyWrong 19 = .ok (.iconst (-1), 1) := by decide +kernel
theorem dX4_mayGoBadlyWrong_20 : decode cX4_mayGoBadlyWrong 20 = .ok (.ixor, 1) := by decide +kernel
theorem dX4_mayGoBadlyWrong_21 : decode cX4_mayGoBadlyWrong 21 = .ok (.iand, 1) := by decide +kernel
theorem dX4_mayGoBadlyWrong_22 : decode cX4_mayGoBadlyWrong 22 = .ok (.istore 4, 2) := by decide +kernel
theorem dX4_mayGoBadlyWrong_24 : decode cX4_mayGoBadlyWrong 24 = .ok (.iconst 0, 1) := by decide +kernel
theorem dX4_mayGoBadlyWrong_25 : decode cX4_mayGoBadlyWrong 25 = .ok (.istore 5, 2) := by decide +kernel
theorem dX4_mayGoBadlyWrong_27 : decode cX4_mayGoBadlyWrong 27 = .ok (.iload 5, 2) := by decide +kernel
theorem dX4_mayGoBadlyWrong_29 : decode cX4_mayGoBadlyWrong 29 = .ok (.aload_n 0, 1) := by decide +kernel
theorem dX4_mayGoBadlyWrong_30 : decode cX4_mayGoBadlyWrong 30 = .ok (.getfield 24, 3) := by decide +kernel
theorem dX4_mayGoBadlyWrong_33 : decode cX4_mayGoBadlyWrong 33 = .ok (.invokevirtual 77, 3) := by decide +kernel
theorem dX4_mayGoBadlyWrong_36 : decode cX4_mayGoBadlyWrong 36 = .ok (.if_icmp .ge 32, 3) := by decide +kernel
theorem dX4_mayGoBadlyWrong_39 : decode cX4_mayGoBadlyWrong 39 = .ok (.iload 4, 2) := by decide +kernel
theorem dX4_mayGoBadlyWrong_41 : decode cX4_mayGoBadlyWrong 41 = .ok (.iload 5, 2) := by decide +kernel
theorem dX4_mayGoBadlyWrong_43 : decode cX4_mayGoBadlyWrong 43 = .ok (.invokestatic 74, 3) := by decide +kernel
theorem dX4_mayGoBadlyWrong_46 : decode cX4_mayGoBadlyWrong 46 = .ok (.iand, 1) := by decide +kernel
theorem dX4_mayGoBadlyWrong_47 : decode cX4_mayGoBadlyWrong 47 = .ok (.ifCond .eq 15, 3) := by decide +kernel
theorem dX4_mayGoBadlyWrong_50 : decode cX4_mayGoBadlyWrong 50 = .ok (.aload_n 0, 1) := by decide +kernel
theorem dX4_mayGoBadlyWrong_51 : decode cX4_mayGoBadlyWrong 51 = .ok (.iload_n 1, 1) := by decide +kernel
theorem dX4_mayGoBadlyWrong_52 : decode cX4_mayGoBadlyWrong 52 = .ok (.iload 5, 2) := by decide +kernel
theorem dX4_mayGoBadlyWrong_54 : decode cX4_mayGoBadlyWrong 54 = .ok (.invokevirtual 80, 3) := by decide +kernel
theorem dX4_mayGoBadlyWrong_57 : decode cX4_mayGoBadlyWrong 57 = .ok (.ifCond .ne 5, 3) := by decide +kernel
theorem dX4_mayGoBadlyWrong_60 : decode cX4_mayGoBadlyWrong 60 = .ok (.iconst 1, 1) := by decide +kernel
theorem dX4_mayGoBadlyWrong_61 : decode cX4_mayGoBadlyWrong 61 = .ok (.ireturn, 1) := by decide +kernel
theorem dX4_mayGoBadlyWrong_62 : decode cX4_mayGoBadlyWrong 62 = .ok (.iinc 5 1, 3) := by decide +kernel
theorem dX4_mayGoBadlyWrong_65 : decode cX4_mayGoBadlyWrong 65 = .ok (.goto (-38), 3) := by decide +kernel
theorem dX4_mayGoBadlyWrong_68 : decode cX4_mayGoBadlyWrong 68 = .ok (.iconst 0, 1) := by decide +kernel
theorem dX4_mayGoBadlyWrong_69 : decode cX4_mayGoBadlyWrong 69 = .ok (.ireturn, 1) := by decide +kernel
theorem dX4_isHarmless_0 : decode cX4_isHarmless 0 = .ok (.aload_n 0, 1) := by decide +kernel
theorem dX4_isHarmless_1 : decode cX4_isHarmless 1 = .ok (.getfield 24, 3) := by decide +kernel
theorem dX4_isHarmless_4 : decode cX4_isHarmless 4 = .ok (.aload_n 0, 1) := by decide +kernel
theorem dX4_isHarmless_5 : decode cX4_isHarmless 5 = .ok (.getfield 24, 3) := by decide +kernel
theorem dX4_isHarmless_8 : decode cX4_isHarmless 8 = .ok (.iload_n 1, 1) := by decide +kernel
theorem dX4_isHarmless_9 : decode cX4_isHarmless 9 = .ok (.iload_n 2, 1) := by decide +kernel
theorem dX4_isHarmless_10 : decode cX4_isHarmless 10 = .ok (.invokevirtual 84, 3) := by decide +kernel
theorem dX4_isHarmless_13 : decode cX4_isHarmless 13 = .ok (.invokevirtual 71, 3) := by decide +kernel
theorem dX4_isHarmless_16 : decode cX4_isHarmless 16 = .ok (.iload_n 2, 1) := by decide +kernel
theorem dX4_isHarmless_17 : decode cX4_isHarmless 17 = .ok (.invokestatic 74, 3) := by decide +kernel
theorem dX4_isHarmless_20 : decode cX4_isHarmless 20 = .ok (.if_icmp .ne 7, 3) := by decide +kernel
theorem dX4_isHarmless_23 : decode cX4_isHarmless 23 = .ok (.iconst 1, 1) := by decide +kernel
theorem dX4_isHarmless_24 : decode cX4_isHarmless 24 = .ok (.goto 4, 3) := by decide +kernel
theorem dX4_isHarmless_27 : decode cX4_isHarmless 27 = .ok (.iconst 0, 1) := by decide +kernel
theorem dX4_isHarmless_28 : decode cX4_isHarmless 28 = .ok (.istore_n 3, 1) := by decide +kernel
theorem dX4_isHarmless_29 : decode cX4_isHarmless 29 = .ok (.iload_n 3, 1) := by decide +kernel
theorem dX4_isHarmless_30 : decode cX4_isHarmless 30 = .ok (.ifCond .eq 22, 3) := by decide +kernel
theorem dX4_isHarmless_33 : decode cX4_isHarmless 33 = .ok (.aload_n 0, 1) := by decide +kernel
theorem dX4_isHarmless_34 : decode cX4_isHarmless 34 = .ok (.getfield 24, 3) := by decide +kernel
theorem dX4_isHarmless_37 : decode cX4_isHarmless 37 = .ok (.iload_n 2, 1) := by decide +kernel
theorem dX4_isHarmless_38 : decode cX4_isHarmless 38 = .ok (.invokevirtual 87, 3) := by decide +kernel
theorem dX4_isHarmless_41 : decode cX4_isHarmless 41 = .ok (.aload_n 0, 1) := by decide +kernel
theorem dX4_isHarmless_42 : decode cX4_isHarmless 42 = .ok (.getfield 20, 3) := by decide +kernel
theorem dX4_isHarmless_45 : decode cX4_isHarmless 45 = .ok (.if_icmp .gt 7, 3) := by decide +kernel
theorem dX4_isHarmless_48 : decode cX4_isHarmless 48 = .ok (.iconst 1, 1) := by decide +kernel
theorem dX4_isHarmless_49 : decode cX4_isHarmless 49 = .ok (.goto 4, 3) := by decide +kernel
theorem dX4_isHarmless_52 : decode cX4_isHarmless 52 = .ok (.iconst 0, 1) := by decide +kernel
theorem dX4_isHarmless_53 : decode cX4_isHarmless 53 = .ok (.ireturn, 1) := by decide +kernel
theorem dX5_init_0 : decode cX5_init 0 = .ok (.aload_n 0, 1) := by decide +kernel
theorem dX5_init_1 : decode cX5_init 1 = .ok (.invokespecial 3, 3) := by decide +kernel
theorem dX5_init_4 : decode cX5_init 4 = .ok (.aload_n 0, 1) := by decide +kernel
theorem dX5_init_5 : decode cX5_init 5 = .ok (.iload_n 1, 1) := by decide +kernel
theorem dX5_init_6 : decode cX5_init 6 = .ok (.ifCond .ge 7, 3) := by decide +kernel
theorem dX5_init_9 : decode cX5_init 9 = .ok (.iconst 0, 1) := by decide +kernel
theorem dX5_init_10 : decode cX5_init 10 = .ok (.goto 4, 3) := by decide +kernel
theorem dX5_init_13 : decode cX5_init 13 = .ok (.iload_n 1, 1) := by decide +kernel
theorem dX5_init_14 : decode cX5_init 14 = .ok (.newarray .int, 2) := by decide +kernel
theorem dX5_init_16 : decode cX5_init 16 = .ok (.putfield 9, 3) := by decide +kernel
theorem dX5_init_19 : decode cX5_init 19 = .ok (.return_, 1) := by decide +kernel
theorem dX5_filled_0 : decode cX5_filled 0 = .ok (.aload_n 0, 1) := by decide +kernel
theorem dX5_filled_1 : decode cX5_filled 1 = .ok (.aload_n 0, 1) := by decide +kernel
theorem dX5_filled_2 : decode cX5_filled 2 = .ok (.getfield 9, 3) := by decide +kernel
theorem dX5_filled_5 : decode cX5_filled 5 = .ok (.arraylength, 1) := by decide +kernel
theorem dX5_filled_6 : decode cX5_filled 6 = .ok (.putfield 15, 3) := by decide +kernel
theorem dX5_filled_9 : decode cX5_filled 9 = .ok (.aload_n 0, 1) := by decide +kernel
theorem dX5_filled_10 : decode cX5_filled 10 = .ok (.areturn, 1) := by decide +kernel
theorem dX5_size_0 : decode cX5_size 0 = .ok (.aload_n 0, 1) := by decide +kernel
theorem dX5_size_1 : decode cX5_size 1 = .ok (.getfield 15, 3) := by decide +kernel
theorem dX5_size_4 : decode cX5_size 4 = .ok (.ireturn, 1) := by decide +kernel
theorem dX5_get_0 : decode cX5_get 0 = .ok (.iload_n 1, 1) := by decide +kernel
theorem dX5_get_1 : decode cX5_get 1 = .ok (.ifCond .lt 29, 3) := by decide +kernel
theorem dX5_get_4 : decode cX5_get 4 = .ok (.iload_n 1, 1) := by decide +kernel
theorem dX5_get_5 : decode cX5_get 5 = .ok (.aload_n 0, 1) := by decide +kernel
theorem dX5_get_6 : decode cX5_get 6 = .ok (.getfield 15, 3) := by decide +kernel
theorem dX5_get_9 : decode cX5_get 9 = .ok (.if_icmp .ge 21, 3) := by decide +kernel
theorem dX5_get_12 : decode cX5_get 12 = .ok (.iload_n 1, 1) := by decide +kernel
theorem dX5_get_13 : decode cX5_get 13 = .ok (.aload_n 0, 1) := by decide +kernel
theorem dX5_get_14 : decode cX5_get 14 = .ok (.getfield 9, 3) := by decide +kernel
theorem dX5_get_17 : decode cX5_get 17 = .ok (.arraylength, 1) := by decide +kernel
theorem dX5_get_18 : decode cX5_get 18 = .ok (.if_icmp .ge 12, 3) := by decide +kernel
theorem dX5_get_21 : decode cX5_get 21 = .ok (.aload_n 0, 1) := by decide +kernel
theorem dX5_get_22 : decode cX5_get 22 = .ok (.getfield 9, 3) := by decide +kernel
theorem dX5_get_25 : decode cX5_get 25 = .ok (.iload_n 1, 1) := by decide +kernel
theorem dX5_get_26 : decode cX5_get 26 = .ok (.iaload, 1) := by decide +kernel
theorem dX5_get_27 : decode cX5_get 27 = .ok (.goto 4, 3) := by decide +kernel
theorem dX5_get_30 : decode cX5_get 30 = .ok (.iconst (-1), 1) := by decide +kernel
theorem dX5_get_31 : decode cX5_get 31 = .ok (.ireturn, 1) := by decide +kernel
theorem dX5_put_0 : decode cX5_put 0 = .ok (.iload_n 1, 1) := by decide +kernel
theorem dX5_put_1 : decode cX5_put 1 = .ok (.ifCond .lt 27, 3) := by decide +kernel
theorem dX5_put_4 : decode cX5_put 4 = .ok (.iload_n 1, 1) := by decide +kernel
theorem dX5_put_5 : decode cX5_put 5 = .ok (.aload_n 0, 1) := by decide +kernel
theorem dX5_put_6 : decode cX5_put 6 = .ok (.getfield 15, 3) := by decide +kernel
theorem dX5_put_9 : decode cX5_put 9 = .ok (.if_icmp .ge 19, 3) := by decide +kernel
theorem dX5_put_12 : decode cX5_put 12 = .ok (.iload_n 1, 1) := by decide +kernel
theorem dX5_put_13 : decode cX5_put 13 = .ok (.aload_n 0, 1) := by decide +kernel
theorem dX5_put_14 : decode cX5_put 14 = .ok (.getfield 9, 3) := by decide +kernel
theorem dX5_put_17 : decode cX5_put 17 = .ok (.arraylength, 1) := by decide +kernel
theorem dX5_put_18 : decode cX5_put 18 = .ok (.if_icmp .ge 10, 3) := by decide +kernel
theorem dX5_put_21 : decode cX5_put 21 = .ok (.aload_n 0, 1) := by decide +kernel
theorem dX5_put_22 : decode cX5_put 22 = .ok (.getfield 9, 3) := by decide +kernel
theorem dX5_put_25 : decode cX5_put 25 = .ok (.iload_n 1, 1) := by decide +kernel
theorem dX5_put_26 : decode cX5_put 26 = .ok (.iload_n 2, 1) := by decide +kernel
theorem dX5_put_27 : decode cX5_put 27 = .ok (.iastore, 1) := by decide +kernel
theorem dX5_put_28 : decode cX5_put 28 = .ok (.return_, 1) := by decide +kernel
theorem dX5_push_0 : decode cX5_push 0 = .ok (.aload_n 0, 1) := by decide +kernel
theorem dX5_push_1 : decode cX5_push 1 = .ok (.getfield 15, 3) := by decide +kernel
theorem dX5_push_4 : decode cX5_push 4 = .ok (.ifCond .lt 35, 3) := by decide +kernel
theorem dX5_push_7 : decode cX5_push 7 = .ok (.aload_n 0, 1) := by decide +kernel
theorem dX5_push_8 : decode cX5_push 8 = .ok (.getfield 15, 3) := by decide +kernel
theorem dX5_push_11 : decode cX5_push 11 = .ok (.aload_n 0, 1) := by decide +kernel
theorem dX5_push_12 : decode cX5_push 12 = .ok (.getfield 9, 3) := by decide +kernel
theorem dX5_push_15 : decode cX5_push 15 = .ok (.arraylength, 1) := by decide +kernel
theorem dX5_push_16 : decode cX5_push 16 = .ok (.if_icmp .ge 23, 3) := by decide +kernel
theorem dX5_push_19 : decode cX5_push 19 = .ok (.aload_n 0, 1) := by decide +kernel
theorem dX5_push_20 : decode cX5_push 20 = .ok (.getfield 9, 3) := by decide +kernel
theorem dX5_push_23 : decode cX5_push 23 = .ok (.aload_n 0, 1) := by decide +kernel
theorem dX5_push_24 : decode cX5_push 24 = .ok (.getfield 15, 3) := by decide +kernel
theorem dX5_push_27 : decode cX5_push 27 = .ok (.iload_n 1, 1) := by decide +kernel
theorem dX5_push_28 : decode cX5_push 28 = .ok (.iastore, 1) := by decide +kernel
theorem dX5_push_29 : decode cX5_push 29 = .ok (.aload_n 0, 1) := by decide +kernel
theorem dX5_push_30 : decode cX5_push 30 = .ok (.dup, 1) := by decide +kernel
theorem dX5_push_31 : decode cX5_push 31 = .ok (.getfield 15, 3) := by decide +kernel
theorem dX5_push_34 : decode cX5_push 34 = .ok (.iconst 1, 1) := by decide +kernel
theorem dX5_push_35 : decode cX5_push 35 = .ok (.iadd, 1) := by decide +kernel
theorem dX5_push_36 : decode cX5_push 36 = .ok (.putfield 15, 3) := by decide +kernel
theorem dX5_push_39 : decode cX5_push 39 = .ok (.aload_n 0, 1) := by decide +kernel
theorem dX5_push_40 : decode cX5_push 40 = .ok (.getfield 15, 3) := by decide +kernel
theorem dX5_push_43 : decode cX5_push 43 = .ok (.ireturn, 1) := by decide +kernel
theorem dX5_has_0 : decode cX5_has 0 = .ok (.iconst 0, 1) := by decide +kernel
theorem dX5_has_1 : decode cX5_has 1 = .ok (.istore_n 2, 1) := by decide +kernel
theorem dX5_has_2 : decode cX5_has 2 = .ok (.iload_n 2, 1) := by decide +kernel
theorem dX5_has_3 : decode cX5_has 3 = .ok (.aload_n 0, 1) := by decide +kernel
theorem dX5_has_4 : decode cX5_has 4 = .ok (.getfield 15, 3) := by decide +kernel
theorem dX5_has_7 : decode cX5_has 7 = .ok (.if_icmp .ge 20, 3) := by decide +kernel
theorem dX5_has_10 : decode cX5_has 10 = .ok (.aload_n 0, 1) := by decide +kernel
theorem dX5_has_11 : decode cX5_has 11 = .ok (.iload_n 2, 1) := by decide +kernel
theorem dX5_has_12 : decode cX5_has 12 = .ok (.invokevirtual 19, 3) := by decide +kernel
theorem dX5_has_15 : decode cX5_has 15 = .ok (.iload_n 1, 1) := by decide +kernel
theorem dX5_has_16 : decode cX5_has 16 = .ok (.if_icmp .ne 5, 3) := by decide +kernel
theorem dX5_has_19 : decode cX5_has 19 = .ok (.iconst 1, 1) := by decide +kernel
theorem dX5_has_20 : decode cX5_has 20 = .ok (.ireturn, 1) := by decide +kernel
theorem dX5_has_21 : decode cX5_has 21 = .ok (.iinc 2 1, 3) := by decide +kernel
theorem dX5_has_24 : decode cX5_has 24 = .ok (.goto (-22), 3) := by decide +kernel
theorem dX5_has_27 : decode cX5_has 27 = .ok (.iconst 0, 1) := by decide +kernel
theorem dX5_has_28 : decode cX5_has 28 = .ok (.ireturn, 1) := by decide +kernel
theorem dX5_clear_0 : decode cX5_clear 0 = .ok (.aload_n 0, 1) := by decide +kernel
theorem dX5_clear_1 : decode cX5_clear 1 = .ok (.getfield 15, 3) := by decide +kernel
theorem dX5_clear_4 : decode cX5_clear 4 = .ok (.istore_n 1, 1) := by decide +kernel
theorem dX5_clear_5 : decode cX5_clear 5 = .ok (.aload_n 0, 1) := by decide +kernel
theorem dX5_clear_6 : decode cX5_clear 6 = .ok (.iconst 0, 1) := by decide +kernel
theorem dX5_clear_7 : decode cX5_clear 7 = .ok (.putfield 15, 3) := by decide +kernel
theorem dX5_clear_10 : decode cX5_clear 10 = .ok (.iload_n 1, 1) := by decide +kernel
theorem dX5_clear_11 : decode cX5_clear 11 = .ok (.ireturn, 1) := by decide +kernel
theorem dX6_init_0 : decode cX6_init 0 = .ok (.aload_n 0, 1) := by decide +kernel
theorem dX6_init_1 : decode cX6_init 1 = .ok (.invokespecial 3, 3) := by decide +kernel
theorem dX6_init_4 : decode cX6_init 4 = .ok (.aload_n 0, 1) := by decide +kernel
theorem dX6_init_5 : decode cX6_init 5 = .ok (.new 9, 3) := by decide +kernel
theorem dX6_init_8 : decode cX6_init 8 = .ok (.dup, 1) := by decide +kernel
theorem dX6_init_9 : decode cX6_init 9 = .ok (.bipush 24, 2) := by decide +kernel
theorem dX6_init_11 : decode cX6_init 11 = .ok (.invokespecial 13, 3) := by decide +kernel
theorem dX6_init_14 : decode cX6_init 14 = .ok (.putfield 16, 3) := by decide +kernel
theorem dX6_init_17 : decode cX6_init 17 = .ok (.aload_n 0, 1) := by decide +kernel
theorem dX6_init_18 : decode cX6_init 18 = .ok (.new 9, 3) := by decide +kernel
theorem dX6_init_21 : decode cX6_init 21 = .ok (.dup, 1) := by decide +kernel
theorem dX6_init_22 : decode cX6_init 22 = .ok (.bipush 24, 2) := by decide +kernel
theorem dX6_init_24 : decode cX6_init 24 = .ok (.invokespecial 13, 3) := by decide +kernel
theorem dX6_init_27 : decode cX6_init 27 = .ok (.putfield 20, 3) := by decide +kernel
theorem dX6_init_30 : decode cX6_init 30 = .ok (.aload_n 0, 1) := by decide +kernel
theorem dX6_init_31 : decode cX6_init 31 = .ok (.new 9, 3) := by decide +kernel
theorem dX6_init_34 : decode cX6_init 34 = .ok (.dup, 1) := by decide +kernel
theorem dX6_init_35 : decode cX6_init 35 = .ok (.bipush 24, 2) := by decide +kernel
theorem dX6_init_37 : decode cX6_init 37 = .ok (.invokespecial 13, 3) := by decide +kernel
theorem dX6_init_40 : decode cX6_init 40 = .ok (.putfield 23, 3) := by decide +kernel
theorem dX6_init_43 : decode cX6_init 43 = .ok (.aload_n 0, 1) := by decide +kernel
theorem dX6_init_44 : decode cX6_init 44 = .ok (.new 9, 3) := by decide +kernel
theorem dX6_init_47 : decode cX6_init 47 = .ok (.dup, 1) := by decide +kernel
theorem dX6_init_48 : decode cX6_init 48 = .ok (.bipush 24, 2) := by decide +kernel
theorem dX6_init_50 : decode cX6_init 50 = .ok (.invokespecial 13, 3) := by decide +kernel
theorem dX6_init_53 : decode cX6_init 53 = .ok (.putfield 26, 3) := by decide +kernel
theorem dX6_init_56 : decode cX6_init 56 = .ok (.aload_n 0, 1) := by decide +kernel
theorem dX6_init_57 : decode cX6_init 57 = .ok (.new 9, 3) := by decide +kernel
theorem dX6_init_60 : decode cX6_init 60 = .ok (.dup, 1) := by decide +kernel
theorem dX6_init_61 : decode cX6_init 61 = .ok (.bipush 24, 2) := by decide +kernel
theorem dX6_init_63 : decode cX6_init 63 = .ok (.invokespecial 13, 3) := by decide +kernel
theorem dX6_init_66 : decode cX6_init 66 = .ok (.putfield 29, 3) := by decide +kernel
theorem dX6_init_69 : decode cX6_init 69 = .ok (.aload_n 0, 1) := by decide +kernel
theorem dX6_init_70 : decode cX6_init 70 = .ok (.new 9, 3) := by decide +kernel
theorem dX6_init_73 : decode cX6_init 73 = .ok (.dup, 1) := by decide +kernel
theorem dX6_init_74 : decode cX6_init 74 = .ok (.bipush 24, 2) := by decide +kernel
theorem dX6_init_76 : decode cX6_init 76 = .ok (.invokespecial 13, 3) := by decide +kernel
theorem dX6_init_79 : decode cX6_init 79 = .ok (.putfield 32, 3) := by decide +kernel
theorem dX6_init_82 : decode cX6_init 82 = .ok (.aload_n 0, 1) := by decide +kernel
theorem dX6_init_83 : decode cX6_init 83 = .ok (.new 9, 3) := by decide +kernel
theorem dX6_init_86 : decode cX6_init 86 = .ok (.dup, 1) := by decide +kernel
theorem dX6_init_87 : decode cX6_init 87 = .ok (.bipush 24, 2) := by decide +kernel
theorem dX6_init_89 : decode cX6_init 89 = .ok (.invokespecial 13, 3) := by decide +kernel
theorem dX6_init_92 : decode cX6_init 92 = .ok (.putfield 35, 3) := by decide +kernel
theorem dX6_init_95 : decode cX6_init 95 = .ok (.aload_n 0, 1) := by decide +kernel
theorem dX6_init_96 : decode cX6_init 96 = .ok (.iconst 0, 1) := by decide +kernel
theorem dX6_init_97 : decode cX6_init 97 = .ok (.putfield 38, 3) := by decide +kernel
theorem dX6_init_100 : decode cX6_init 100 = .ok (.aload_n 0, 1) := by decide +kernel
theorem dX6_init_101 : decode cX6_init 101 = .ok (.iconst 0, 1) := by decide +kernel
theorem dX6_init_102 : decode cX6_init 102 = .ok (.putfield 42, 3) := by decide +kernel
theorem dX6_init_105 : decode cX6_init 105 = .ok (.aload_n 0, 1) := by decide +kernel
theorem dX6_init_106 : decode cX6_init 106 = .ok (.iconst 0, 1) := by decide +kernel
theorem dX6_init_107 : decode cX6_init 107 = .ok (.putfield 45, 3) := by decide +kernel
theorem dX6_init_110 : decode cX6_init 110 = .ok (.aload_n 0, 1) := by decide +kernel
theorem dX6_init_111 : decode cX6_init 111 = .ok (.aload_n 1, 1) := by decide +kernel
theorem dX6_init_112 : decode cX6_init 112 = .ok (.putfield 48, 3) := by decide +kernel
theorem dX6_init_115 : decode cX6_init 115 = .ok (.return_, 1) := by decide +kernel
theorem dX6_signCount_0 : decode cX6_signCount 0 = .ok (.aload_n 0, 1) := by decide +kernel
theorem dX6_signCount_1 : decode cX6_signCount 1 = .ok (.getfield 16, 3) := by decide +kernel
theorem dX6_signCount_4 : decode cX6_signCount 4 = .ok (.invokevirtual 52, 3) := by decide +kernel
theorem dX6_signCount_7 : decode cX6_signCount 7 = .ok (.ireturn, 1) := by decide +kernel
theorem dX6_today_0 : decode cX6_today 0 = .ok (.aload_n 0, 1) := by decide +kernel
theorem dX6_today_1 : decode cX6_today 1 = .ok (.getfield 38, 3) := by decide +kernel
theorem dX6_today_4 : decode cX6_today 4 = .ok (.ireturn, 1) := by decide +kernel
theorem dX6_changeWeather_0 : decode cX6_changeWeather 0 = .ok (.aload_n 0, 1) := by decide +kernel
theorem dX6_changeWeather_1 : decode cX6_changeWeather 1 = .ok (.getfield 42, 3) := by decide +kernel
theorem dX6_changeWeather_4 : decode cX6_changeWeather 4 = .ok (.istore_n 2, 1) := by decide +kernel
theorem dX6_changeWeather_5 : decode cX6_changeWeather 5 = .ok (.aload_n 0, 1) := by decide +kernel
theorem dX6_changeWeather_6 : decode cX6_changeWeather 6 = .ok (.iload_n 1, 1) := by decide +kernel
theorem dX6_changeWeather_7 : decode cX6_changeWeather 7 = .ok (.putfield 42, 3) := by decide +kernel
theorem dX6_changeWeather_10 : decode cX6_changeWeather 10 = .ok (.iload_n 2, 1) := by decide +kernel
theorem dX6_changeWeather_11 : decode cX6_changeWeather 11 = .ok (.ireturn, 1) := by decide +kernel
theorem dX6_changeFog_0 : decode cX6_changeFog 0 = .ok (.aload_n 0, 1) := by decide +kernel
theorem dX6_changeFog_1 : decode cX6_changeFog 1 = .ok (.getfield 45, 3) := by decide +kernel
theorem dX6_changeFog_4 : decode cX6_changeFog 4 = .ok (.istore_n 2, 1) := by decide +kernel
theorem dX6_changeFog_5 : decode cX6_changeFog 5 = .ok (.aload_n 0, 1) := by decide +kernel
theorem dX6_changeFog_6 : decode cX6_changeFog 6 = .ok (.iload_n 1, 1) := by decide +kernel
theorem dX6_changeFog_7 : decode cX6_changeFog 7 = .ok (.putfield 45, 3) := by decide +kernel
theorem dX6_changeFog_10 : decode cX6_changeFog 10 = .ok (.iload_n 2, 1) := by decide +kernel
theorem dX6_changeFog_11 : decode cX6_changeFog 11 = .ok (.ireturn, 1) := by decide +kernel
theorem dX6_letDaysGoBy_0 : decode cX6_letDaysGoBy 0 = .ok (.iconst 0, 1) := by decide +kernel
theorem dX6_letDaysGoBy_1 : decode cX6_letDaysGoBy 1 = .ok (.istore_n 2, 1) := by decide +kernel
theorem dX6_letDaysGoBy_2 : decode cX6_letDaysGoBy 2 = .ok (.iload_n 2, 1) := by decide +kernel
theorem dX6_letDaysGoBy_3 : decode cX6_letDaysGoBy 3 = .ok (.aload_n 0, 1) := by decide +kernel
theorem dX6_letDaysGoBy_4 : decode cX6_letDaysGoBy 4 = .ok (.invokevirtual 56, 3) := by decide +kernel
theorem dX6_letDaysGoBy_7 : decode cX6_letDaysGoBy 7 = .ok (.if_icmp .ge 53, 3) := by decide +kernel
theorem dX6_letDaysGoBy_10 : decode cX6_letDaysGoBy 10 = .ok (.aload_n 0, 1) := by decide +kernel
theorem dX6_letDaysGoBy_11 : decode cX6_letDaysGoBy 11 = .ok (.iload_n 2, 1) := by decide +kernel
theorem dX6_letDaysGoBy_12 : decode cX6_letDaysGoBy 12 = .ok (.invokevirtual 59, 3) := by decide +kernel
theorem dX6_letDaysGoBy_15 : decode cX6_letDaysGoBy 15 = .ok (.iconst 2, 1) := by decide +kernel
theorem dX6_letDaysGoBy_16 : decode cX6_letDaysGoBy 16 = .ok (.if_icmp .ne 7, 3) := by decide +kernel
theorem dX6_letDaysGoBy_19 : decode cX6_letDaysGoBy 19 = .ok (.iload_n 1, 1) := by decide +kernel
theorem dX6_letDaysGoBy_20 : decode cX6_letDaysGoBy 20 = .ok (.goto 11, 3) := by decide +kernel
theorem dX6_letDaysGoBy_23 : decode cX6_letDaysGoBy 23 = .ok (.iload_n 1, 1) := by decide +kernel
theorem dX6_letDaysGoBy_24 : decode cX6_letDaysGoBy 24 = .ok (.iconst 1, 1) := by decide +kernel
theorem dX6_letDaysGoBy_25 : decode cX6_letDaysGoBy 25 = .ok (.aload_n 0, 1) := by decide +kernel
theorem dX6_letDaysGoBy_26 : decode cX6_letDaysGoBy 26 = .ok (.getfield 42, 3) := by decide +kernel
theorem dX6_letDaysGoBy_29 : decode cX6_letDaysGoBy 29 = .ok (.ishl, 1) := by decide +kernel
theorem dX6_letDaysGoBy_30 : decode cX6_letDaysGoBy 30 = .ok (.imul, 1) := by decide +kernel
theorem dX6_letDaysGoBy_31 : decode cX6_letDaysGoBy 31 = .ok (.istore_n 3, 1) := by decide +kernel
theorem dX6_letDaysGoBy_32 : decode cX6_letDaysGoBy 32 = .ok (.aload_n 0, 1) := by decide +kernel
theorem dX6_letDaysGoBy_33 : decode cX6_letDaysGoBy 33 = .ok (.getfield 26, 3) := by decide +kernel
theorem dX6_letDaysGoBy_36 : decode cX6_letDaysGoBy 36 = .ok (.iload_n 2, 1) := by decide +kernel
theorem dX6_letDaysGoBy_37 : decode cX6_letDaysGoBy 37 = .ok (.iconst 0, 1) := by decide +kernel
theorem dX6_letDaysGoBy_38 : decode cX6_letDaysGoBy 38 = .ok (.aload_n 0, 1) := by decide +kernel
theorem dX6_letDaysGoBy_39 : decode cX6_letDaysGoBy 39 = .ok (.getfield 26, 3) := by decide +kernel
theorem dX6_letDaysGoBy_42 : decode cX6_letDaysGoBy 42 = .ok (.iload_n 2, 1) := by decide +kernel
theorem dX6_letDaysGoBy_43 : decode cX6_letDaysGoBy 43 = .ok (.invokevirtual 63, 3) := by decide +kernel
theorem dX6_letDaysGoBy_46 : decode cX6_letDaysGoBy 46 = .ok (.iload_n 3, 1) := by decide +kernel
theorem dX6_letDaysGoBy_47 : decode cX6_letDaysGoBy 47 = .ok (.isub, 1) := by decide +kernel
theorem dX6_letDaysGoBy_48 : decode cX6_letDaysGoBy 48 = .ok (.invokestatic 66, 3) := by decide +kernel
theorem dX6_letDaysGoBy_51 : decode cX6_letDaysGoBy 51 = .ok (.invokevirtual 72, 3) := by decide +kernel
theorem dX6_letDaysGoBy_54 : decode cX6_letDaysGoBy 54 = .ok (.iinc 2 1, 3) := by decide +kernel
theorem dX6_letDaysGoBy_57 : decode cX6_letDaysGoBy 57 = .ok (.goto (-55), 3) := by decide +kernel
theorem dX6_letDaysGoBy_60 : decode cX6_letDaysGoBy 60 = .ok (.aload_n 0, 1) := by decide +kernel
theorem dX6_letDaysGoBy_61 : decode cX6_letDaysGoBy 61 = .ok (.dup, 1) := by decide +kernel
theorem dX6_letDaysGoBy_62 : decode cX6_letDaysGoBy 62 = .ok (.getfield 38, 3) := by decide +kernel
theorem dX6_letDaysGoBy_65 : decode cX6_letDaysGoBy 65 = .ok (.iload_n 1, 1) := by decide +kernel
theorem dX6_letDaysGoBy_66 : decode cX6_letDaysGoBy 66 = .ok (.iadd, 1) := by decide +kernel
theorem dX6_letDaysGoBy_67 : decode cX6_letDaysGoBy 67 = .ok (.putfield 38, 3) := by decide +kernel
theorem dX6_letDaysGoBy_70 : decode cX6_letDaysGoBy 70 = .ok (.aload_n 0, 1) := by decide +kernel
theorem dX6_letDaysGoBy_71 : decode cX6_letDaysGoBy 71 = .ok (.getfield 38, 3) := by decide +kernel
theorem dX6_letDaysGoBy_74 : decode cX6_letDaysGoBy 74 = .ok (.ireturn, 1) := by decide +kernel
theorem dX6_lay_0 : decode cX6_lay 0 = .ok (.aload_n 0, 1) := by decide +kernel
theorem dX6_lay_1 : decode cX6_lay 1 = .ok (.invokevirtual 56, 3) := by decide +kernel
theorem dX6_lay_4 : decode cX6_lay 4 = .ok (.istore 7, 2) := by decide +kernel
theorem dX6_lay_6 : decode cX6_lay 6 = .ok (.aload_n 0, 1) := by decide +kernel
theorem dX6_lay_7 : decode cX6_lay 7 = .ok (.getfield 16, 3) := by decide +kernel
theorem dX6_lay_10 : decode cX6_lay 10 = .ok (.iload_n 1, 1) := by decide +kernel
theorem dX6_lay_11 : decode cX6_lay 11 = .ok (.invokevirtual 76, 3) := by decide +kernel
theorem dX6_lay_14 : decode cX6_lay 14 = .ok (.pop, 1) := by decide +kernel
theorem dX6_lay_15 : decode cX6_lay 15 = .ok (.aload_n 0, 1) := by decide +kernel
theorem dX6_lay_16 : decode cX6_lay 16 = .ok (.getfield 20, 3) := by decide +kernel
theorem dX6_lay_19 : decode cX6_lay 19 = .ok (.iload_n 2, 1) := by decide +kernel
theorem dX6_lay_20 : decode cX6_lay 20 = .ok (.invokevirtual 76, 3) := by decide +kernel
theorem dX6_lay_23 : decode cX6_lay 23 = .ok (.pop, 1) := by decide +kernel
theorem dX6_lay_24 : decode cX6_lay 24 = .ok (.aload_n 0, 1) := by decide +kernel
theorem dX6_lay_25 : decode cX6_lay 25 = .ok (.getfield 23, 3) := by decide +kernel
theorem dX6_lay_28 : decode cX6_lay 28 = .ok (.iload_n 3, 1) := by decide +kernel
theorem dX6_lay_29 : decode cX6_lay 29 = .ok (.invokevirtual 76, 3) := by decide +kernel
theorem dX6_lay_32 : decode cX6_lay 32 = .ok (.pop, 1) := by decide +kernel
theorem dX6_lay_33 : decode cX6_lay 33 = .ok (.aload_n 0, 1) := by decide +kernel
theorem dX6_lay_34 : decode cX6_lay 34 = .ok (.getfield 26, 3) := by decide +kernel
theorem dX6_lay_37 : decode cX6_lay 37 = .ok (.iload 4, 2) := by decide +kernel
theorem dX6_lay_39 : decode cX6_lay 39 = .ok (.invokevirtual 76, 3) := by decide +kernel
theorem dX6_lay_42 : decode cX6_lay 42 = .ok (.pop, 1) := by decide +kernel
theorem dX6_lay_43 : decode cX6_lay 43 = .ok (.aload_n 0, 1) := by decide +kernel
theorem dX6_lay_44 : decode cX6_lay 44 = .ok (.getfield 29, 3) := by decide +kernel
theorem dX6_lay_47 : decode cX6_lay 47 = .ok (.aload_n 0, 1) := by decide +kernel
theorem dX6_lay_48 : decode cX6_lay 48 = .ok (.getfield 38, 3) := by decide +kernel
theorem dX6_lay_51 : decode cX6_lay 51 = .ok (.invokevirtual 76, 3) := by decide +kernel
theorem dX6_lay_54 : decode cX6_lay 54 = .ok (.pop, 1) := by decide +kernel
theorem dX6_lay_55 : decode cX6_lay 55 = .ok (.aload_n 0, 1) := by decide +kernel
theorem dX6_lay_56 : decode cX6_lay 56 = .ok (.getfield 32, 3) := by decide +kernel
theorem dX6_lay_59 : decode cX6_lay 59 = .ok (.iconst 0, 1) := by decide +kernel
theorem dX6_lay_60 : decode cX6_lay 60 = .ok (.invokevirtual 76, 3) := by decide +kernel
theorem dX6_lay_63 : decode cX6_lay 63 = .ok (.pop, 1) := by decide +kernel
theorem dX6_lay_64 : decode cX6_lay 64 = .ok (.aload_n 0, 1) := by decide +kernel
theorem dX6_lay_65 : decode cX6_lay 65 = .ok (.getfield 35, 3) := by decide +kernel
theorem dX6_lay_68 : decode cX6_lay 68 = .ok (.iload 6, 2) := by decide +kernel
theorem dX6_lay_70 : decode cX6_lay 70 = .ok (.ifCond .eq 11, 3) := by decide +kernel
theorem dX6_lay_73 : decode cX6_lay 73 = .ok (.iload 5, 2) := by decide +kernel
theorem dX6_lay_75 : decode cX6_lay 75 = .ok (.ldc 79, 2) := by decide +kernel
theorem dX6_lay_77 : decode cX6_lay 77 = .ok (.ior, 1) := by decide +kernel
theorem dX6_lay_78 : decode cX6_lay 78 = .ok (.goto 5, 3) := by decide +kernel
theorem dX6_lay_81 : decode cX6_lay 81 = .ok (.iload 5, 2) := by decide +kernel
theorem dX6_lay_83 : decode cX6_lay 83 = .ok (.invokevirtual 76, 3) := by decide +kernel
theorem dX6_lay_86 : decode cX6_lay 86 = .ok (.pop, 1) := by decide +kernel
theorem dX6_lay_87 : decode cX6_lay 87 = .ok (.iload 7, 2) := by decide +kernel
theorem dX6_lay_89 : decode cX6_lay 89 = .ok (.ireturn, 1) := by decide +kernel
theorem dX6_pointTo_0 : decode cX6_pointTo 0 = .ok (.aload_n 0, 1) := by decide +kernel
theorem dX6_pointTo_1 : decode cX6_pointTo 1 = .ok (.iload_n 1, 1) := by decide +kernel
theorem dX6_pointTo_2 : decode cX6_pointTo 2 = .ok (.invokevirtual 80, 3) := by decide +kernel
theorem dX6_pointTo_5 : decode cX6_pointTo 5 = .ok (.istore_n 3, 1) := by decide +kernel
theorem dX6_pointTo_6 : decode cX6_pointTo 6 = .ok (.aload_n 0, 1) := by decide +kernel
theorem dX6_pointTo_7 : decode cX6_pointTo 7 = .ok (.getfield 23, 3) := by decide +kernel
theorem dX6_pointTo_10 : decode cX6_pointTo 10 = .ok (.iload_n 1, 1) := by decide +kernel
theorem dX6_pointTo_11 : decode cX6_pointTo 11 = .ok (.iload_n 2, 1) := by decide +kernel
theorem dX6_pointTo_12 : decode cX6_pointTo 12 = .ok (.invokevirtual 72, 3) := by decide +kernel
theorem dX6_pointTo_15 : decode cX6_pointTo 15 = .ok (.aload_n 0, 1) := by decide +kernel
theorem dX6_pointTo_16 : decode cX6_pointTo 16 = .ok (.getfield 32, 3) := by decide +kernel
theorem dX6_pointTo_19 : decode cX6_pointTo 19 = .ok (.iload_n 1, 1) := by decide +kernel
theorem dX6_pointTo_20 : decode cX6_pointTo 20 = .ok (.iconst 1, 1) := by decide +kernel
theorem dX6_pointTo_21 : decode cX6_pointTo 21 = .ok (.invokevirtual 72, 3) := by decide +kernel
theorem dX6_pointTo_24 : decode cX6_pointTo 24 = .ok (.iload_n 3, 1) := by decide +kernel
theorem dX6_pointTo_25 : decode cX6_pointTo 25 = .ok (.ireturn, 1) := by decide +kernel
theorem dX6_placeOf_0 : decode cX6_placeOf 0 = .ok (.aload_n 0, 1) := by decide +kernel
theorem dX6_placeOf_1 : decode cX6_placeOf 1 = .ok (.getfield 16, 3) := by decide +kernel
theorem dX6_placeOf_4 : decode cX6_placeOf 4 = .ok (.iload_n 1, 1) := by decide +kernel
theorem dX6_placeOf_5 : decode cX6_placeOf 5 = .ok (.invokevirtual 63, 3) := by decide +kernel
theorem dX6_placeOf_8 : decode cX6_placeOf 8 = .ok (.ireturn, 1) := by decide +kernel
theorem dX6_kindOf_0 : decode cX6_kindOf 0 = .ok (.aload_n 0, 1) := by decide +kernel
theorem dX6_kindOf_1 : decode cX6_kindOf 1 = .ok (.getfield 20, 3) := by decide +kernel
theorem dX6_kindOf_4 : decode cX6_kindOf 4 = .ok (.iload_n 1, 1) := by decide +kernel
theorem dX6_kindOf_5 : decode cX6_kindOf 5 = .ok (.invokevirtual 63, 3) := by decide +kernel
theorem dX6_kindOf_8 : decode cX6_kindOf 8 = .ok (.ireturn, 1) := by decide +kernel
theorem dX6_valueOf_0 : decode cX6_valueOf 0 = .ok (.aload_n 0, 1) := by decide +kernel
theorem dX6_valueOf_1 : decode cX6_valueOf 1 = .ok (.getfield 23, 3) := by decide +kernel
theorem dX6_valueOf_4 : decode cX6_valueOf 4 = .ok (.iload_n 1, 1) := by decide +kernel
theorem dX6_valueOf_5 : decode cX6_valueOf 5 = .ok (.invokevirtual 63, 3) := by decide +kernel
theorem dX6_valueOf_8 : decode cX6_valueOf 8 = .ok (.ireturn, 1) := by decide +kernel
theorem dX6_isGone_0 : decode cX6_isGone 0 = .ok (.aload_n 0, 1) := by decide +kernel
theorem dX6_isGone_1 : decode cX6_isGone 1 = .ok (.getfield 26, 3) := by decide +kernel
theorem dX6_isGone_4 : decode cX6_isGone 4 = .ok (.iload_n 1, 1) := by decide +kernel
theorem dX6_isGone_5 : decode cX6_isGone 5 = .ok (.invokevirtual 63, 3) := by decide +kernel
theorem dX6_isGone_8 : decode cX6_isGone 8 = .ok (.ifCond .gt 7, 3) := by decide +kernel
theorem dX6_isGone_11 : decode cX6_isGone 11 = .ok (.iconst 1, 1) := by decide +kernel
theorem dX6_isGone_12 : decode cX6_isGone 12 = .ok (.goto 4, 3) := by decide +kernel
theorem dX6_isGone_15 : decode cX6_isGone 15 = .ok (.iconst 0, 1) := by decide +kernel
theorem dX6_isGone_16 : decode cX6_isGone 16 = .ok (.ireturn, 1) := by decide +kernel
theorem dX6_tell_0 : decode cX6_tell 0 = .ok (.iload_n 2, 1) := by decide +kernel
theorem dX6_tell_1 : decode cX6_tell 1 = .ok (.tableswitch 71 0 4 #[35, 41, 47, 53, 62], 35) := by decide +kernel
theorem dX6_tell_36 : decode cX6_tell 36 = .ok (.aload_n 0, 1) := by decide +kernel
theorem dX6_tell_37 : decode cX6_tell 37 = .ok (.iload_n 1, 1) := by decide +kernel
theorem dX6_tell_38 : decode cX6_tell 38 = .ok (.invokevirtual 83, 3) := by decide +kernel
theorem dX6_tell_41 : decode cX6_tell 41 = .ok (.ireturn, 1) := by decide +kernel
theorem dX6_tell_42 : decode cX6_tell 42 = .ok (.aload_n 0, 1) := by decide +kernel
theorem dX6_tell_43 : decode cX6_tell 43 = .ok (.iload_n 1, 1) := by decide +kernel
theorem dX6_tell_44 : decode cX6_tell 44 = .ok (.invokevirtual 59, 3) := by decide +kernel
theorem dX6_tell_47 : decode cX6_tell 47 = .ok (.ireturn, 1) := by decide +kernel
theorem dX6_tell_48 : decode cX6_tell 48 = .ok (.aload_n 0, 1) := by decide +kernel
theorem dX6_tell_49 : decode cX6_tell 49 = .ok (.iload_n 1, 1) := by decide +kernel
theorem dX6_tell_50 : decode cX6_tell 50 = .ok (.invokevirtual 80, 3) := by decide +kernel
theorem dX6_tell_53 : decode cX6_tell 53 = .ok (.ireturn, 1) := by decide +kernel
theorem dX6_tell_54 : decode cX6_tell 54 = .ok (.aload_n 0, 1) := by decide +kernel
theorem dX6_tell_55 : decode cX6_tell 55 = .ok (.getfield 26, 3) := by decide +kernel
theorem dX6_tell_58 : decode cX6_tell 58 = .ok (.iload_n 1, 1) := by decide +kernel
theorem dX6_tell_59 : decode cX6_tell 59 = .ok (.invokevirtual 63, 3) := by decide +kernel
theorem dX6_tell_62 : decode cX6_tell 62 = .ok (.ireturn, 1) := by decide +kernel
theorem dX6_tell_63 : decode cX6_tell 63 = .ok (.aload_n 0, 1) := by decide +kernel
theorem dX6_tell_64 : decode cX6_tell 64 = .ok (.getfield 29, 3) := by decide +kernel
theorem dX6_tell_67 : decode cX6_tell 67 = .ok (.iload_n 1, 1) := by decide +kernel
theorem dX6_tell_68 : decode cX6_tell 68 = .ok (.invokevirtual 63, 3) := by decide +kernel
theorem dX6_tell_71 : decode cX6_tell 71 = .ok (.ireturn, 1) := by decide +kernel
theorem dX6_tell_72 : decode cX6_tell 72 = .ok (.aload_n 0, 1) := by decide +kernel
theorem dX6_tell_73 : decode cX6_tell 73 = .ok (.getfield 32, 3) := by decide +kernel
theorem dX6_tell_76 : decode cX6_tell 76 = .ok (.iload_n 1, 1) := by decide +kernel
theorem dX6_tell_77 : decode cX6_tell 77 = .ok (.invokevirtual 63, 3) := by decide +kernel
theorem dX6_tell_80 : decode cX6_tell 80 = .ok (.ireturn, 1) := by decide +kernel
theorem dX6_countLeft_0 : decode cX6_countLeft 0 = .ok (.iconst 0, 1) := by decide +kernel
theorem dX6_countLeft_1 : decode cX6_countLeft 1 = .ok (.istore_n 1, 1) := by decide +kernel
theorem dX6_countLeft_2 : decode cX6_countLeft 2 = .ok (.iconst 0, 1) := by decide +kernel
theorem dX6_countLeft_3 : decode cX6_countLeft 3 = .ok (.istore_n 2, 1) := by decide +kernel
theorem dX6_countLeft_4 : decode cX6_countLeft 4 = .ok (.iload_n 2, 1) := by decide +kernel
theorem dX6_countLeft_5 : decode cX6_countLeft 5 = .ok (.aload_n 0, 1) := by decide +kernel
theorem dX6_countLeft_6 : decode cX6_countLeft 6 = .ok (.invokevirtual 56, 3) := by decide +kernel
theorem dX6_countLeft_9 : decode cX6_countLeft 9 = .ok (.if_icmp .ge 25, 3) := by decide +kernel
theorem dX6_countLeft_12 : decode cX6_countLeft 12 = .ok (.iload_n 1, 1) := by decide +kernel
theorem dX6_countLeft_13 : decode cX6_countLeft 13 = .ok (.aload_n 0, 1) := by decide +kernel
theorem dX6_countLeft_14 : decode cX6_countLeft 14 = .ok (.iload_n 2, 1) := by decide +kernel
theorem dX6_countLeft_15 : decode cX6_countLeft 15 = .ok (.invokevirtual 86, 3) := by decide +kernel
theorem dX6_countLeft_18 : decode cX6_countLeft 18 = .ok (.ifCond .eq 7, 3) := by decide +kernel
theorem dX6_countLeft_21 : decode cX6_countLeft 21 = .ok (.iconst 0, 1) := by decide +kernel
theorem dX6_countLeft_22 : decode cX6_countLeft 22 = .ok (.goto 4, 3) := by decide +kernel
theorem dX6_countLeft_25 : decode cX6_countLeft 25 = .ok (.iconst 1, 1) := by decide +kernel
theorem dX6_countLeft_26 : decode cX6_countLeft 26 = .ok (.iadd, 1) := by decide +kernel
theorem dX6_countLeft_27 : decode cX6_countLeft 27 = .ok (.istore_n 1, 1) := by decide +kernel
theorem dX6_countLeft_28 : decode cX6_countLeft 28 = .ok (.iinc 2 1, 3) := by decide +kernel
theorem dX6_countLeft_31 : decode cX6_countLeft 31 = .ok (.goto (-27), 3) := by decide +kernel
theorem dX6_countLeft_34 : decode cX6_countLeft 34 = .ok (.iload_n 1, 1) := by decide +kernel
theorem dX6_countLeft_35 : decode cX6_countLeft 35 = .ok (.ireturn, 1) := by decide +kernel
theorem dX6_isSeen_0 : decode cX6_isSeen 0 = .ok (.aload_n 0, 1) := by decide +kernel
theorem dX6_isSeen_1 : decode cX6_isSeen 1 = .ok (.iload_n 1, 1) := by decide +kernel
theorem dX6_isSeen_2 : decode cX6_isSeen 2 = .ok (.invokevirtual 83, 3) := by decide +kernel
theorem dX6_isSeen_5 : decode cX6_isSeen 5 = .ok (.iload_n 2, 1) := by decide +kernel
theorem dX6_isSeen_6 : decode cX6_isSeen 6 = .ok (.if_icmp .ne 11, 3) := by decide +kernel
theorem dX6_isSeen_9 : decode cX6_isSeen 9 = .ok (.aload_n 0, 1) := by decide +kernel
theorem dX6_isSeen_10 : decode cX6_isSeen 10 = .ok (.iload_n 1, 1) := by decide +kernel
theorem dX6_isSeen_11 : decode cX6_isSeen 11 = .ok (.invokevirtual 86, 3) := by decide +kernel
theorem dX6_isSeen_14 : decode cX6_isSeen 14 = .ok (.ifCond .eq 5, 3) := by decide +kernel
theorem dX6_isSeen_17 : decode cX6_isSeen 17 = .ok (.iconst 0, 1) := by decide +kernel
theorem dX6_isSeen_18 : decode cX6_isSeen 18 = .ok (.ireturn, 1) := by decide +kernel
theorem dX6_isSeen_19 : decode cX6_isSeen 19 = .ok (.iload_n 3, 1) := by decide +kernel
theorem dX6_isSeen_20 : decode cX6_isSeen 20 = .ok (.iconst (-1), 1) := by decide +kernel
theorem dX6_isSeen_21 : decode cX6_isSeen 21 = .ok (.if_icmp .ne 8, 3) := by decide +kernel
theorem dX6_isSeen_24 : decode cX6_isSeen 24 = .ok (.ldc 79, 2) := by decide +kernel
theorem dX6_isSeen_26 : decode cX6_isSeen 26 = .ok (.goto 7, 3) := by decide +kernel
theorem dX6_isSeen_29 : decode cX6_isSeen 29 = .ok (.iload_n 3, 1) := by decide +kernel
theorem dX6_isSeen_30 : decode cX6_isSeen 30 = .ok (.invokestatic 90, 3) := by decide +kernel
theorem dX6_isSeen_33 : decode cX6_isSeen 33 = .ok (.istore 4, 2) := by decide +kernel
theorem dX6_isSeen_35 : decode cX6_isSeen 35 = .ok (.aload_n 0, 1) := by decide +kernel
theorem dX6_isSeen_36 : decode cX6_isSeen 36 = .ok (.getfield 35, 3) := by decide +kernel
theorem dX6_isSeen_39 : decode cX6_isSeen 39 = .ok (.iload_n 1, 1) := by decide +kernel
theorem dX6_isSeen_40 : decode cX6_isSeen 40 = .ok (.invokevirtual 63, 3) := by decide +kernel
theorem dX6_isSeen_43 : decode cX6_isSeen 43 = .ok (.iload 4, 2) := by decide +kernel
theorem dX6_isSeen_45 : decode cX6_isSeen 45 = .ok (.iand, 1) := by decide +kernel
theorem dX6_isSeen_46 : decode cX6_isSeen 46 = .ok (.ifCond .ne 5, 3) := by decide +kernel
theorem dX6_isSeen_49 : decode cX6_isSeen 49 = .ok (.iconst 0, 1) := by decide +kernel
theorem dX6_isSeen_50 : decode cX6_isSeen 50 = .ok (.ireturn, 1) := by decide +kernel
theorem dX6_isSeen_51 : decode cX6_isSeen 51 = .ok (.iload_n 3, 1) := by decide +kernel
theorem dX6_isSeen_52 : decode cX6_isSeen 52 = .ok (.iconst (-1), 1) := by decide +kernel
theorem dX6_isSeen_53 : decode cX6_isSeen 53 = .ok (.if_icmp .eq 29, 3) := by decide +kernel
theorem dX6_isSeen_56 : decode cX6_isSeen 56 = .ok (.aload_n 0, 1) := by decide +kernel
theorem dX6_isSeen_57 : decode cX6_isSeen 57 = .ok (.iload_n 1, 1) := by decide +kernel
theorem dX6_isSeen_58 : decode cX6_isSeen 58 = .ok (.invokevirtual 59, 3) := by decide +kernel
theorem dX6_isSeen_61 : decode cX6_isSeen 61 = .ok (.invokestatic 93, 3) := by decide +kernel
theorem dX6_isSeen_64 : decode cX6_isSeen 64 = .ok (.ifCond .eq 18, 3) := by decide +kernel
theorem dX6_isSeen_67 : decode cX6_isSeen 67 = .ok (.aload_n 0, 1) := by decide +kernel
theorem dX6_isSeen_68 : decode cX6_isSeen 68 = .ok (.getfield 48, 3) := by decide +kernel
theorem dX6_isSeen_71 : decode cX6_isSeen 71 = .ok (.iload_n 3, 1) := by decide +kernel
theorem dX6_isSeen_72 : decode cX6_isSeen 72 = .ok (.invokevirtual 96, 3) := by decide +kernel
theorem dX6_isSeen_75 : decode cX6_isSeen 75 = .ok (.aload_n 0, 1) := by decide +kernel
theorem dX6_isSeen_76 : decode cX6_isSeen 76 = .ok (.getfield 45, 3) := by decide +kernel
theorem dX6_isSeen_79 : decode cX6_isSeen 79 = .ok (.if_icmp .lt 7, 3) := by decide +kernel
theorem dX6_isSeen_82 : decode cX6_isSeen 82 = .ok (.iconst 1, 1) := by decide +kernel
theorem dX6_isSeen_83 : decode cX6_isSeen 83 = .ok (.goto 4, 3) := by decide +kernel
theorem dX6_isSeen_86 : decode cX6_isSeen 86 = .ok (.iconst 0, 1) := by decide +kernel
theorem dX6_isSeen_87 : decode cX6_isSeen 87 = .ok (.ireturn, 1) := by decide +kernel
theorem dX6_allSeen_0 : decode cX6_allSeen 0 = .ok (.iconst 0, 1) := by decide +kernel
theorem dX6_allSeen_1 : decode cX6_allSeen 1 = .ok (.istore_n 3, 1) := by decide +kernel
theorem dX6_allSeen_2 : decode cX6_allSeen 2 = .ok (.iconst 0, 1) := by decide +kernel
theorem dX6_allSeen_3 : decode cX6_allSeen 3 = .ok (.istore 4, 2) := by decide +kernel
theorem dX6_allSeen_5 : decode cX6_allSeen 5 = .ok (.iload 4, 2) := by decide +kernel
theorem dX6_allSeen_7 : decode cX6_allSeen 7 = .ok (.aload_n 0, 1) := by decide +kernel
theorem dX6_allSeen_8 : decode cX6_allSeen 8 = .ok (.invokevirtual 56, 3) := by decide +kernel
theorem dX6_allSeen_11 : decode cX6_allSeen 11 = .ok (.if_icmp .ge 31, 3) := by decide +kernel
theorem dX6_allSeen_14 : decode cX6_allSeen 14 = .ok (.iload_n 3, 1) := by decide +kernel
theorem dX6_allSeen_15 : decode cX6_allSeen 15 = .ok (.aload_n 0, 1) := by decide +kernel
theorem dX6_allSeen_16 : decode cX6_allSeen 16 = .ok (.iload 4, 2) := by decide +kernel
theorem dX6_allSeen_18 : decode cX6_allSeen 18 = .ok (.iload_n 1, 1) := by decide +kernel
theorem dX6_allSeen_19 : decode cX6_allSeen 19 = .ok (.iload_n 2, 1) := by decide +kernel
theorem dX6_allSeen_20 : decode cX6_allSeen 20 = .ok (.invokevirtual 101, 3) := by decide +kernel
theorem dX6_allSeen_23 : decode cX6_allSeen 23 = .ok (.ifCond .eq 10, 3) := by decide +kernel
theorem dX6_allSeen_26 : decode cX6_allSeen 26 = .ok (.iconst 1, 1) := by decide +kernel
theorem dX6_allSeen_27 : decode cX6_allSeen 27 = .ok (.iload 4, 2) := by decide +kernel
theorem dX6_allSeen_29 : decode cX6_allSeen 29 = .ok (.ishl, 1) := by decide +kernel
theorem dX6_allSeen_30 : decode cX6_allSeen 30 = .ok (.goto 4, 3) := by decide +kernel
theorem dX6_allSeen_33 : decode cX6_allSeen 33 = .ok (.iconst 0, 1) := by decide +kernel
theorem dX6_allSeen_34 : decode cX6_allSeen 34 = .ok (.ior, 1) := by decide +kernel
theorem dX6_allSeen_35 : decode cX6_allSeen 35 = .ok (.istore_n 3, 1) := by decide +kernel
theorem dX6_allSeen_36 : decode cX6_allSeen 36 = .ok (.iinc 4 1, 3) := by decide +kernel
theorem dX6_allSeen_39 : decode cX6_allSeen 39 = .ok (.goto (-34), 3) := by decide +kernel
theorem dX6_allSeen_42 : decode cX6_allSeen 42 = .ok (.iload_n 3, 1) := by decide +kernel
theorem dX6_allSeen_43 : decode cX6_allSeen 43 = .ok (.ireturn, 1) := by decide +kernel
theorem dX6_kindsSeen_0 : decode cX6_kindsSeen 0 = .ok (.iconst 0, 1) := by decide +kernel
theorem dX6_kindsSeen_1 : decode cX6_kindsSeen 1 = .ok (.istore_n 3, 1) := by decide +kernel
theorem dX6_kindsSeen_2 : decode cX6_kindsSeen 2 = .ok (.iconst 0, 1) := by decide +kernel
theorem dX6_kindsSeen_3 : decode cX6_kindsSeen 3 = .ok (.istore 4, 2) := by decide +kernel
theorem dX6_kindsSeen_5 : decode cX6_kindsSeen 5 = .ok (.iload 4, 2) := by decide +kernel
theorem dX6_kindsSeen_7 : decode cX6_kindsSeen 7 = .ok (.aload_n 0, 1) := by decide +kernel
theorem dX6_kindsSeen_8 : decode cX6_kindsSeen 8 = .ok (.invokevirtual 56, 3) := by decide +kernel
theorem dX6_kindsSeen_11 : decode cX6_kindsSeen 11 = .ok (.if_icmp .ge 35, 3) := by decide +kernel
theorem dX6_kindsSeen_14 : decode cX6_kindsSeen 14 = .ok (.iload_n 3, 1) := by decide +kernel
theorem dX6_kindsSeen_15 : decode cX6_kindsSeen 15 = .ok (.aload_n 0, 1) := by decide +kernel
theorem dX6_kindsSeen_16 : decode cX6_kindsSeen 16 = .ok (.iload 4, 2) := by decide +kernel
theorem dX6_kindsSeen_18 : decode cX6_kindsSeen 18 = .ok (.iload_n 1, 1) := by decide +kernel
theorem dX6_kindsSeen_19 : decode cX6_kindsSeen 19 = .ok (.iload_n 2, 1) := by decide +kernel
theorem dX6_kindsSeen_20 : decode cX6_kindsSeen 20 = .ok (.invokevirtual 101, 3) := by decide +kernel
theorem dX6_kindsSeen_23 : decode cX6_kindsSeen 23 = .ok (.ifCond .eq 14, 3) := by decide +kernel
theorem dX6_kindsSeen_26 : decode cX6_kindsSeen 26 = .ok (.iconst 1, 1) := by decide +kernel
theorem dX6_kindsSeen_27 : decode cX6_kindsSeen 27 = .ok (.aload_n 0, 1) := by decide +kernel
theorem dX6_kindsSeen_28 : decode cX6_kindsSeen 28 = .ok (.iload 4, 2) := by decide +kernel
theorem dX6_kindsSeen_30 : decode cX6_kindsSeen 30 = .ok (.invokevirtual 59, 3) := by decide +kernel
theorem dX6_kindsSeen_33 : decode cX6_kindsSeen 33 = .ok (.ishl, 1) := by decide +kernel
theorem dX6_kindsSeen_34 : decode cX6_kindsSeen 34 = .ok (.goto 4, 3) := by decide +kernel
theorem dX6_kindsSeen_37 : decode cX6_kindsSeen 37 = .ok (.iconst 0, 1) := by decide +kernel
theorem dX6_kindsSeen_38 : decode cX6_kindsSeen 38 = .ok (.ior, 1) := by decide +kernel
theorem dX6_kindsSeen_39 : decode cX6_kindsSeen 39 = .ok (.istore_n 3, 1) := by decide +kernel
theorem dX6_kindsSeen_40 : decode cX6_kindsSeen 40 = .ok (.iinc 4 1, 3) := by decide +kernel
theorem dX6_kindsSeen_43 : decode cX6_kindsSeen 43 = .ok (.goto (-38), 3) := by decide +kernel
theorem dX6_kindsSeen_46 : decode cX6_kindsSeen 46 = .ok (.iload_n 3, 1) := by decide +kernel
theorem dX6_kindsSeen_47 : decode cX6_kindsSeen 47 = .ok (.ireturn, 1) := by decide +kernel
theorem dX7_init_0 : decode cX7_init 0 = .ok (.aload_n 0, 1) := by decide +kernel
theorem dX7_init_1 : decode cX7_init 1 = .ok (.invokespecial 3, 3) := by decide +kernel
theorem dX7_init_4 : decode cX7_init 4 = .ok (.aload_n 0, 1) := by decide +kernel
theorem dX7_init_5 : decode cX7_init 5 = .ok (.new 9, 3) := by decide +kernel
theorem dX7_init_8 : decode cX7_init 8 = .ok (.dup, 1) := by decide +kernel
theorem dX7_init_9 : decode cX7_init 9 = .ok (.bipush 36, 2) := by decide +kernel
theorem dX7_init_11 : decode cX7_init 11 = .ok (.invokespecial 13, 3) := by decide +kernel
theorem dX7_init_14 : decode cX7_init 14 = .ok (.invokevirtual 16, 3) := by decide +kernel
theorem dX7_init_17 : decode cX7_init 17 = .ok (.putfield 20, 3) := by decide +kernel
theorem dX7_init_20 : decode cX7_init 20 = .ok (.aload_n 0, 1) := by decide +kernel
theorem dX7_init_21 : decode cX7_init 21 = .ok (.new 9, 3) := by decide +kernel
theorem dX7_init_24 : decode cX7_init 24 = .ok (.dup, 1) := by decide +kernel
theorem dX7_init_25 : decode cX7_init 25 = .ok (.bipush 6, 2) := by decide +kernel
theorem dX7_init_27 : decode cX7_init 27 = .ok (.invokespecial 13, 3) := by decide +kernel
theorem dX7_init_30 : decode cX7_init 30 = .ok (.putfield 24, 3) := by decide +kernel
theorem dX7_init_33 : decode cX7_init 33 = .ok (.aload_n 0, 1) := by decide +kernel
theorem dX7_init_34 : decode cX7_init 34 = .ok (.new 9, 3) := by decide +kernel
theorem dX7_init_37 : decode cX7_init 37 = .ok (.dup, 1) := by decide +kernel
theorem dX7_init_38 : decode cX7_init 38 = .ok (.bipush 6, 2) := by decide +kernel
theorem dX7_init_40 : decode cX7_init 40 = .ok (.invokespecial 13, 3) := by decide +kernel
theorem dX7_init_43 : decode cX7_init 43 = .ok (.putfield 27, 3) := by decide +kernel
theorem dX7_init_46 : decode cX7_init 46 = .ok (.aload_n 0, 1) := by decide +kernel
theorem dX7_init_47 : decode cX7_init 47 = .ok (.bipush 12, 2) := by decide +kernel
theorem dX7_init_49 : decode cX7_init 49 = .ok (.putfield 30, 3) := by decide +kernel
theorem dX7_init_52 : decode cX7_init 52 = .ok (.aload_n 0, 1) := by decide +kernel
theorem dX7_init_53 : decode cX7_init 53 = .ok (.aload_n 1, 1) := by decide +kernel
theorem dX7_init_54 : decode cX7_init 54 = .ok (.putfield 34, 3) := by decide +kernel
theorem dX7_init_57 : decode cX7_init 57 = .ok (.aload_n 0, 1) := by decide +kernel
theorem dX7_init_58 : decode cX7_init 58 = .ok (.aload_n 2, 1) := by decide +kernel
theorem dX7_init_59 : decode cX7_init 59 = .ok (.putfield 38, 3) := by decide +kernel
theorem dX7_init_62 : decode cX7_init 62 = .ok (.return_, 1) := by decide +kernel
theorem dX7_trailCount_0 : decode cX7_trailCount 0 = .ok (.aload_n 0, 1) := by decide +kernel
theorem dX7_trailCount_1 : decode cX7_trailCount 1 = .ok (.getfield 24, 3) := by decide +kernel
theorem dX7_trailCount_4 : decode cX7_trailCount 4 = .ok (.invokevirtual 42, 3) := by decide +kernel
theorem dX7_trailCount_7 : decode cX7_trailCount 7 = .ok (.ireturn, 1) := by decide +kernel
theorem dX7_sizeOf_0 : decode cX7_sizeOf 0 = .ok (.aload_n 0, 1) := by decide +kernel
theorem dX7_sizeOf_1 : decode cX7_sizeOf 1 = .ok (.getfield 24, 3) := by decide +kernel
theorem dX7_sizeOf_4 : decode cX7_sizeOf 4 = .ok (.iload_n 1, 1) := by decide +kernel
theorem dX7_sizeOf_5 : decode cX7_sizeOf 5 = .ok (.invokevirtual 46, 3) := by decide +kernel
theorem dX7_sizeOf_8 : decode cX7_sizeOf 8 = .ok (.ireturn, 1) := by decide +kernel
theorem dX7_changeReach_0 : decode cX7_changeReach 0 = .ok (.aload_n 0, 1) := by decide +kernel
theorem dX7_changeReach_1 : decode cX7_changeReach 1 = .ok (.getfield 30, 3) := by decide +kernel
theorem dX7_changeReach_4 : decode cX7_changeReach 4 = .ok (.istore_n 2, 1) := by decide +kernel
theorem dX7_changeReach_5 : decode cX7_changeReach 5 = .ok (.aload_n 0, 1) := by decide +kernel
theorem dX7_changeReach_6 : decode cX7_changeReach 6 = .ok (.iload_n 1, 1) := by decide +kernel
theorem dX7_changeReach_7 : decode cX7_changeReach 7 = .ok (.putfield 30, 3) := by decide +kernel
theorem dX7_changeReach_10 : decode cX7_changeReach 10 = .ok (.iload_n 2, 1) := by decide +kernel
theorem dX7_changeReach_11 : decode cX7_changeReach 11 = .ok (.ireturn, 1) := by decide +kernel
theorem dX7_begin_0 : decode cX7_begin 0 = .ok (.aload_n 0, 1) := by decide +kernel
theorem dX7_begin_1 : decode cX7_begin 1 = .ok (.invokevirtual 50, 3) := by decide +kernel
theorem dX7_begin_4 : decode cX7_begin 4 = .ok (.istore_n 3, 1) := by decide +kernel
theorem dX7_begin_5 : decode cX7_begin 5 = .ok (.aload_n 0, 1) := by decide +kernel
theorem dX7_begin_6 : decode cX7_begin 6 = .ok (.getfield 24, 3) := by decide +kernel
theorem dX7_begin_9 : decode cX7_begin 9 = .ok (.iconst 0, 1) := by decide +kernel
theorem dX7_begin_10 : decode cX7_begin 10 = .ok (.invokevirtual 53, 3) := by decide +kernel
theorem dX7_begin_13 : decode cX7_begin 13 = .ok (.pop, 1) := by decide +kernel
theorem dX7_begin_14 : decode cX7_begin 14 = .ok (.aload_n 0, 1) := by decide +kernel
theorem dX7_begin_15 : decode cX7_begin 15 = .ok (.getfield 27, 3) := by decide +kernel
theorem dX7_begin_18 : decode cX7_begin 18 = .ok (.iload_n 2, 1) := by decide +kernel
theorem dX7_begin_19 : decode cX7_begin 19 = .ok (.ifCond .eq 7, 3) := by decide +kernel
theorem dX7_begin_22 : decode cX7_begin 22 = .ok (.iconst 1, 1) := by decide +kernel
theorem dX7_begin_23 : decode cX7_begin 23 = .ok (.goto 4, 3) := by decide +kernel
theorem dX7_begin_26 : decode cX7_begin 26 = .ok (.iconst 0, 1) := by decide +kernel
theorem dX7_begin_27 : decode cX7_begin 27 = .ok (.invokevirtual 53, 3) := by decide +kernel
theorem dX7_begin_30 : decode cX7_begin 30 = .ok (.pop, 1) := by decide +kernel
theorem dX7_begin_31 : decode cX7_begin 31 = .ok (.aload_n 0, 1) := by decide +kernel
theorem dX7_begin_32 : decode cX7_begin 32 = .ok (.iload_n 3, 1) := by decide +kernel
theorem dX7_begin_33 : decode cX7_begin 33 = .ok (.iload_n 1, 1) := by decide +kernel
theorem dX7_begin_34 : decode cX7_begin 34 = .ok (.invokevirtual 56, 3) := by decide +kernel
theorem dX7_begin_37 : decode cX7_begin 37 = .ok (.pop, 1) := by decide +kernel
theorem dX7_begin_38 : decode cX7_begin 38 = .ok (.iload_n 3, 1) := by decide +kernel
theorem dX7_begin_39 : decode cX7_begin 39 = .ok (.ireturn, 1) := by decide +kernel
theorem dX7_placeAt_0 : decode cX7_placeAt 0 = .ok (.iload_n 2, 1) := by decide +kernel
theorem dX7_placeAt_1 : decode cX7_placeAt 1 = .ok (.ifCond .lt 28, 3) := by decide +kernel
theorem dX7_placeAt_4 : decode cX7_placeAt 4 = .ok (.iload_n 2, 1) := by decide +kernel
theorem dX7_placeAt_5 : decode cX7_placeAt 5 = .ok (.aload_n 0, 1) := by decide +kernel
theorem dX7_placeAt_6 : decode cX7_placeAt 6 = .ok (.iload_n 1, 1) := by decide +kernel
theorem dX7_placeAt_7 : decode cX7_placeAt 7 = .ok (.invokevirtual 60, 3) := by decide +kernel
theorem dX7_placeAt_10 : decode cX7_placeAt 10 = .ok (.if_icmp .ge 19, 3) := by decide +kernel
theorem dX7_placeAt_13 : decode cX7_placeAt 13 = .ok (.aload_n 0, 1) := by decide +kernel
theorem dX7_placeAt_14 : decode cX7_placeAt 14 = .ok (.getfield 20, 3) := by decide +kernel
theorem dX7_placeAt_17 : decode cX7_placeAt 17 = .ok (.iload_n 1, 1) := by decide +kernel
theorem dX7_placeAt_18 : decode cX7_placeAt 18 = .ok (.bipush 6, 2) := by decide +kernel
theorem dX7_placeAt_20 : decode cX7_placeAt 20 = .ok (.imul, 1) := by decide +kernel
theorem dX7_placeAt_21 : decode cX7_placeAt 21 = .ok (.iload_n 2, 1) := by decide +kernel
theorem dX7_placeAt_22 : decode cX7_placeAt 22 = .ok (.iadd, 1) := by decide +kernel
theorem dX7_placeAt_23 : decode cX7_placeAt 23 = .ok (.invokevirtual 46, 3) := by decide +kernel
theorem dX7_placeAt_26 : decode cX7_placeAt 26 = .ok (.goto 4, 3) := by decide +kernel
theorem dX7_placeAt_29 : decode cX7_placeAt 29 = .ok (.iconst (-1), 1) := by decide +kernel
theorem dX7_placeAt_30 : decode cX7_placeAt 30 = .ok (.ireturn, 1) := by decide +kernel
theorem dX7_indexOf_0 : decode cX7_indexOf 0 = .ok (.iconst 0, 1) := by decide +kernel
theorem dX7_indexOf_1 : decode cX7_indexOf 1 = .ok (.istore_n 3, 1) := by decide +kernel
theorem dX7_indexOf_2 : decode cX7_indexOf 2 = .ok (.iload_n 3, 1) := by decide +kernel
theorem dX7_indexOf_3 : decode cX7_indexOf 3 = .ok (.aload_n 0, 1) := by decide +kernel
theorem dX7_indexOf_4 : decode cX7_indexOf 4 = .ok (.iload_n 1, 1) := by decide +kernel
theorem dX7_indexOf_5 : decode cX7_indexOf 5 = .ok (.invokevirtual 60, 3) := by decide +kernel
theorem dX7_indexOf_8 : decode cX7_indexOf 8 = .ok (.if_icmp .ge 21, 3) := by decide +kernel
theorem dX7_indexOf_11 : decode cX7_indexOf 11 = .ok (.aload_n 0, 1) := by decide +kernel
theorem dX7_indexOf_12 : decode cX7_indexOf 12 = .ok (.iload_n 1, 1) := by decide +kernel
theorem dX7_indexOf_13 : decode cX7_indexOf 13 = .ok (.iload_n 3, 1) := by decide +kernel
theorem dX7_indexOf_14 : decode cX7_indexOf 14 = .ok (.invokevirtual 63, 3) := by decide +kernel
theorem dX7_indexOf_17 : decode cX7_indexOf 17 = .ok (.iload_n 2, 1) := by decide +kernel
theorem dX7_indexOf_18 : decode cX7_indexOf 18 = .ok (.if_icmp .ne 5, 3) := by decide +kernel
theorem dX7_indexOf_21 : decode cX7_indexOf 21 = .ok (.iload_n 3, 1) := by decide +kernel
theorem dX7_indexOf_22 : decode cX7_indexOf 22 = .ok (.ireturn, 1) := by decide +kernel
theorem dX7_indexOf_23 : decode cX7_indexOf 23 = .ok (.iinc 3 1, 3) := by decide +kernel
theorem dX7_indexOf_26 : decode cX7_indexOf 26 = .ok (.goto (-24), 3) := by decide +kernel
theorem dX7_indexOf_29 : decode cX7_indexOf 29 = .ok (.iconst (-1), 1) := by decide +kernel
theorem dX7_indexOf_30 : decode cX7_indexOf 30 = .ok (.ireturn, 1) := by decide +kernel
theorem dX7_mayGoOnTo_0 : decode cX7_mayGoOnTo 0 = .ok (.aload_n 0, 1) := by decide +kernel
theorem dX7_mayGoOnTo_1 : decode cX7_mayGoOnTo 1 = .ok (.iload_n 1, 1) := by decide +kernel
theorem dX7_mayGoOnTo_2 : decode cX7_mayGoOnTo 2 = .ok (.aload_n 0, 1) := by decide +kernel
theorem dX7_mayGoOnTo_3 : decode cX7_mayGoOnTo 3 = .ok (.iload_n 1, 1) := by decide +kernel
theorem dX7_mayGoOnTo_4 : decode cX7_mayGoOnTo 4 = .ok (.invokevirtual 60, 3) := by decide +kernel
theorem dX7_mayGoOnTo_7 : decode cX7_mayGoOnTo 7 = .ok (.iconst 1, 1) := by decide +kernel
theorem dX7_mayGoOnTo_8 : decode cX7_mayGoOnTo 8 = .ok (.isub, 1) := by decide +kernel
theorem dX7_mayGoOnTo_9 : decode cX7_mayGoOnTo 9 = .ok (.invokevirtual 63, 3) := by decide +kernel
theorem dX7_mayGoOnTo_12 : decode cX7_mayGoOnTo 12 = .ok (.istore_n 3, 1) := by decide +kernel
theorem dX7_mayGoOnTo_13 : decode cX7_mayGoOnTo 13 = .ok (.aload_n 0, 1) := by decide +kernel
theorem dX7_mayGoOnTo_14 : decode cX7_mayGoOnTo 14 = .ok (.iload_n 1, 1) := by decide +kernel
theorem dX7_mayGoOnTo_15 : decode cX7_mayGoOnTo 15 = .ok (.iload_n 2, 1) := by decide +kernel
theorem dX7_mayGoOnTo_16 : decode cX7_mayGoOnTo 16 = .ok (.invokevirtual 66, 3) := by decide +kernel
theorem dX7_mayGoOnTo_19 : decode cX7_mayGoOnTo 19 = .ok (.iconst (-1), 1) := by decide +kernel
theorem dX7_mayGoOnTo_20 : decode cX7_mayGoOnTo 20 = .ok (.if_icmp .ne 20, 3) := by decide +kernel
theorem dX7_mayGoOnTo_23 : decode cX7_mayGoOnTo 23 = .ok (.aload_n 0, 1) := by decide +kernel
theorem dX7_mayGoOnTo_24 : decode cX7_mayGoOnTo 24 = .ok (.getfield 34, 3) := by decide +kernel
theorem dX7_mayGoOnTo_27 : decode cX7_mayGoOnTo 27 = .ok (.iload_n 3, 1) := by decide +kernel
theorem dX7_mayGoOnTo_28 : decode cX7_mayGoOnTo 28 = .ok (.iload_n 2, 1) := by decide +kernel
theorem dX7_mayGoOnTo_29 : decode cX7_mayGoOnTo 29 = .ok (.invokevirtual 69, 3) := by decide +kernel
theorem dX7_mayGoOnTo_32 : decode cX7_mayGoOnTo 32 = .ok (.iconst (-1), 1) := by decide +kernel
theorem dX7_mayGoOnTo_33 : decode cX7_mayGoOnTo 33 = .ok (.if_icmp .eq 7, 3) := by decide +kernel
theorem dX7_mayGoOnTo_36 : decode cX7_mayGoOnTo 36 = .ok (.iconst 1, 1) := by decide +kernel
theorem dX7_mayGoOnTo_37 : decode cX7_mayGoOnTo 37 = .ok (.goto 4, 3) := by decide +kernel
theorem dX7_mayGoOnTo_40 : decode cX7_mayGoOnTo 40 = .ok (.iconst 0, 1) := by decide +kernel
theorem dX7_mayGoOnTo_41 : decode cX7_mayGoOnTo 41 = .ok (.ireturn, 1) := by decide +kernel
theorem dX7_goOnTo_0 : decode cX7_goOnTo 0 = .ok (.aload_n 0, 1) := by decide +kernel
theorem dX7_goOnTo_1 : decode cX7_goOnTo 1 = .ok (.iload_n 1, 1) := by decide +kernel
theorem dX7_goOnTo_2 : decode cX7_goOnTo 2 = .ok (.invokevirtual 60, 3) := by decide +kernel
theorem dX7_goOnTo_5 : decode cX7_goOnTo 5 = .ok (.istore_n 3, 1) := by decide +kernel
theorem dX7_goOnTo_6 : decode cX7_goOnTo 6 = .ok (.aload_n 0, 1) := by decide +kernel
theorem dX7_goOnTo_7 : decode cX7_goOnTo 7 = .ok (.getfield 20, 3) := by decide +kernel
theorem dX7_goOnTo_10 : decode cX7_goOnTo 10 = .ok (.iload_n 1, 1) := by decide +kernel
theorem dX7_goOnTo_11 : decode cX7_goOnTo 11 = .ok (.bipush 6, 2) := by decide +kernel
theorem dX7_goOnTo_13 : decode cX7_goOnTo 13 = .ok (.imul, 1) := by decide +kernel
theorem dX7_goOnTo_14 : decode cX7_goOnTo 14 = .ok (.iload_n 3, 1) := by decide +kernel
theorem dX7_goOnTo_15 : decode cX7_goOnTo 15 = .ok (.iadd, 1) := by decide +kernel
theorem dX7_goOnTo_16 : decode cX7_goOnTo 16 = .ok (.iload_n 2, 1) := by decide +kernel
theorem dX7_goOnTo_17 : decode cX7_goOnTo 17 = .ok (.invokevirtual 74, 3) := by decide +kernel
theorem dX7_goOnTo_20 : decode cX7_goOnTo 20 = .ok (.aload_n 0, 1) := by decide +kernel
theorem dX7_goOnTo_21 : decode cX7_goOnTo 21 = .ok (.getfield 24, 3) := by decide +kernel
theorem dX7_goOnTo_24 : decode cX7_goOnTo 24 = .ok (.iload_n 1, 1) := by decide +kernel
theorem dX7_goOnTo_25 : decode cX7_goOnTo 25 = .ok (.iload_n 3, 1) := by decide +kernel
theorem dX7_goOnTo_26 : decode cX7_goOnTo 26 = .ok (.iconst 1, 1) := by decide +kernel
theorem dX7_goOnTo_27 : decode cX7_goOnTo 27 = .ok (.iadd, 1) := by decide +kernel
theorem dX7_goOnTo_28 : decode cX7_goOnTo 28 = .ok (.invokevirtual 74, 3) := by decide +kernel
theorem dX7_goOnTo_31 : decode cX7_goOnTo 31 = .ok (.iload_n 3, 1) := by decide +kernel
theorem dX7_goOnTo_32 : decode cX7_goOnTo 32 = .ok (.iconst 1, 1) := by decide +kernel
theorem dX7_goOnTo_33 : decode cX7_goOnTo 33 = .ok (.iadd, 1) := by decide +kernel
theorem dX7_goOnTo_34 : decode cX7_goOnTo 34 = .ok (.ireturn, 1) := by decide +kernel
theorem dX7_faultsOf_0 : decode cX7_faultsOf 0 = .ok (.aload_n 0, 1) := by decide +kernel
theorem dX7_faultsOf_1 : decode cX7_faultsOf 1 = .ok (.iload_n 1, 1) := by decide +kernel
theorem dX7_faultsOf_2 : decode cX7_faultsOf 2 = .ok (.invokevirtual 78, 3) := by decide +kernel
theorem dX7_faultsOf_5 : decode cX7_faultsOf 5 = .ok (.ifCond .ne 5, 3) := by decide +kernel
theorem dX7_faultsOf_8 : decode cX7_faultsOf 8 = .ok (.iconst 0, 1) := by decide +kernel
theorem dX7_faultsOf_9 : decode cX7_faultsOf 9 = .ok (.ireturn, 1) := by decide +kernel
theorem dX7_faultsOf_10 : decode cX7_faultsOf 10 = .ok (.aload_n 0, 1) := by decide +kernel
theorem dX7_faultsOf_11 : decode cX7_faultsOf 11 = .ok (.getfield 38, 3) := by decide +kernel
theorem dX7_faultsOf_14 : decode cX7_faultsOf 14 = .ok (.aload_n 0, 1) := by decide +kernel
theorem dX7_faultsOf_15 : decode cX7_faultsOf 15 = .ok (.iload_n 1, 1) := by decide +kernel
theorem dX7_faultsOf_16 : decode cX7_faultsOf 16 = .ok (.iconst 0, 1) := by decide +kernel
theorem dX7_faultsOf_17 : decode cX7_faultsOf 17 = .ok (.invokevirtual 63, 3) := by decide +kernel
theorem dX7_faultsOf_20 : decode cX7_faultsOf 20 = .ok (.invokevirtual 82, 3) := by decide +kernel
theorem dX7_faultsOf_23 : decode cX7_faultsOf 23 = .ok (.ifCond .eq 7, 3) := by decide +kernel
theorem dX7_faultsOf_26 : decode cX7_faultsOf 26 = .ok (.iconst 0, 1) := by decide +kernel
theorem dX7_faultsOf_27 : decode cX7_faultsOf 27 = .ok (.goto 4, 3) := by decide +kernel
theorem dX7_faultsOf_30 : decode cX7_faultsOf 30 = .ok (.iconst 1, 1) := by decide +kernel
theorem dX7_faultsOf_31 : decode cX7_faultsOf 31 = .ok (.istore_n 2, 1) := by decide +kernel
theorem dX7_faultsOf_32 : decode cX7_faultsOf 32 = .ok (.iload_n 2, 1) := by decide +kernel
theorem dX7_faultsOf_33 : decode cX7_faultsOf 33 = .ok (.aload_n 0, 1) := by decide +kernel
theorem dX7_faultsOf_34 : decode cX7_faultsOf 34 = .ok (.iload_n 1, 1) := by decide +kernel
theorem dX7_faultsOf_35 : decode cX7_faultsOf 35 = .ok (.invokevirtual 87, 3) := by decide +kernel
theorem dX7_faultsOf_38 : decode cX7_faultsOf 38 = .ok (.ifCond .eq 7, 3) := by decide +kernel
theorem dX7_faultsOf_41 : decode cX7_faultsOf 41 = .ok (.iconst 2, 1) := by decide +kernel
theorem dX7_faultsOf_42 : decode cX7_faultsOf 42 = .ok (.goto 4, 3) := by decide +kernel
theorem dX7_faultsOf_45 : decode cX7_faultsOf 45 = .ok (.iconst 0, 1) := by decide +kernel
theorem dX7_faultsOf_46 : decode cX7_faultsOf 46 = .ok (.ior, 1) := by decide +kernel
theorem dX7_faultsOf_47 : decode cX7_faultsOf 47 = .ok (.istore_n 2, 1) := by decide +kernel
theorem dX7_faultsOf_48 : decode cX7_faultsOf 48 = .ok (.iload_n 2, 1) := by decide +kernel
theorem dX7_faultsOf_49 : decode cX7_faultsOf 49 = .ok (.aload_n 0, 1) := by decide +kernel
theorem dX7_faultsOf_50 : decode cX7_faultsOf 50 = .ok (.iload_n 1, 1) := by decide +kernel
theorem dX7_faultsOf_51 : decode cX7_faultsOf 51 = .ok (.invokevirtual 90, 3) := by decide +kernel
theorem dX7_faultsOf_54 : decode cX7_faultsOf 54 = .ok (.aload_n 0, 1) := by decide +kernel
theorem dX7_faultsOf_55 : decode cX7_faultsOf 55 = .ok (.getfield 30, 3) := by decide +kernel
theorem dX7_faultsOf_58 : decode cX7_faultsOf 58 = .ok (.if_icmp .le 7, 3) := by decide +kernel
theorem dX7_faultsOf_61 : decode cX7_faultsOf 61 = .ok (.iconst 4, 1) := by decide +kernel
theorem dX7_faultsOf_62 : decode cX7_faultsOf 62 = .ok (.goto 4, 3) := by decide +kernel
theorem dX7_faultsOf_65 : decode cX7_faultsOf 65 = .ok (.iconst 0, 1) := by decide +kernel
theorem dX7_faultsOf_66 : decode cX7_faultsOf 66 = .ok (.ior, 1) := by decide +kernel
theorem dX7_faultsOf_67 : decode cX7_faultsOf 67 = .ok (.istore_n 2, 1) := by decide +kernel
theorem dX7_faultsOf_68 : decode cX7_faultsOf 68 = .ok (.iconst 0, 1) := by decide +kernel
theorem dX7_faultsOf_69 : decode cX7_faultsOf 69 = .ok (.istore_n 3, 1) := by decide +kernel
theorem dX7_faultsOf_70 : decode cX7_faultsOf 70 = .ok (.iload_n 3, 1) := by decide +kernel
theorem dX7_faultsOf_71 : decode cX7_faultsOf 71 = .ok (.aload_n 0, 1) := by decide +kernel
theorem dX7_faultsOf_72 : decode cX7_faultsOf 72 = .ok (.invokevirtual 50, 3) := by decide +kernel
theorem dX7_faultsOf_75 : decode cX7_faultsOf 75 = .ok (.if_icmp .ge 40, 3) := by decide +kernel
theorem dX7_faultsOf_78 : decode cX7_faultsOf 78 = .ok (.iload_n 2, 1) := by decide +kernel
theorem dX7_faultsOf_79 : decode cX7_faultsOf 79 = .ok (.iload_n 3, 1) := by decide +kernel
theorem dX7_faultsOf_80 : decode cX7_faultsOf 80 = .ok (.iload_n 1, 1) := by decide +kernel
theorem dX7_faultsOf_81 : decode cX7_faultsOf 81 = .ok (.if_icmp .eq 25, 3) := by decide +kernel
theorem dX7_faultsOf_84 : decode cX7_faultsOf 84 = .ok (.aload_n 0, 1) := by decide +kernel
theorem dX7_faultsOf_85 : decode cX7_faultsOf 85 = .ok (.iload_n 3, 1) := by decide +kernel
theorem dX7_faultsOf_86 : decode cX7_faultsOf 86 = .ok (.invokevirtual 78, 3) := by decide +kernel
theorem dX7_faultsOf_89 : decode cX7_faultsOf 89 = .ok (.ifCond .eq 17, 3) := by decide +kernel
theorem dX7_faultsOf_92 : decode cX7_faultsOf 92 = .ok (.aload_n 0, 1) := by decide +kernel
theorem dX7_faultsOf_93 : decode cX7_faultsOf 93 = .ok (.iload_n 1, 1) := by decide +kernel
theorem dX7_faultsOf_94 : decode cX7_faultsOf 94 = .ok (.iload_n 3, 1) := by decide +kernel
theorem dX7_faultsOf_95 : decode cX7_faultsOf 95 = .ok (.invokevirtual 93, 3) := by decide +kernel
theorem dX7_faultsOf_98 : decode cX7_faultsOf 98 = .ok (.ifCond .eq 8, 3) := by decide +kernel
theorem dX7_faultsOf_101 : decode cX7_faultsOf 101 = .ok (.bipush 8, 2) := by decide +kernel
theorem dX7_faultsOf_103 : decode cX7_faultsOf 103 = .ok (.goto 4, 3) := by decide +kernel
theorem dX7_faultsOf_106 : decode cX7_faultsOf 106 = .ok (.iconst 0, 1) := by decide +kernel
theorem dX7_faultsOf_107 : decode cX7_faultsOf 107 = .ok (.ior, 1) := by decide +kernel
theorem dX7_faultsOf_108 : decode cX7_faultsOf 108 = .ok (.istore_n 2, 1) := by decide +kernel
theorem dX7_faultsOf_109 : decode cX7_faultsOf 109 = .ok (.iinc 3 1, 3) := by decide +kernel
theorem dX7_faultsOf_112 : decode cX7_faultsOf 112 = .ok (.goto (-42), 3) := by decide +kernel
theorem dX7_faultsOf_115 : decode cX7_faultsOf 115 = .ok (.iload_n 2, 1) := by decide +kernel
theorem dX7_faultsOf_116 : decode cX7_faultsOf 116 = .ok (.ireturn, 1) := by decide +kernel
theorem dX7_isFalse_0 : decode cX7_isFalse 0 = .ok (.aload_n 0, 1) := by decide +kernel
theorem dX7_isFalse_1 : decode cX7_isFalse 1 = .ok (.getfield 27, 3) := by decide +kernel
theorem dX7_isFalse_4 : decode cX7_isFalse 4 = .ok (.iload_n 1, 1) := by decide +kernel
theorem dX7_isFalse_5 : decode cX7_isFalse 5 = .ok (.invokevirtual 46, 3) := by decide +kernel
theorem dX7_isFalse_8 : decode cX7_isFalse 8 = .ok (.iconst 1, 1) := by decide +kernel
theorem dX7_isFalse_9 : decode cX7_isFalse 9 = .ok (.if_icmp .ne 7, 3) := by decide +kernel
theorem dX7_isFalse_12 : decode cX7_isFalse 12 = .ok (.iconst 1, 1) := by decide +kernel
theorem dX7_isFalse_13 : decode cX7_isFalse 13 = .ok (.goto 4, 3) := by decide +kernel
theorem dX7_isFalse_16 : decode cX7_isFalse 16 = .ok (.iconst 0, 1) := by decide +kernel
theorem dX7_isFalse_17 : decode cX7_isFalse 17 = .ok (.ireturn, 1) := by decide +kernel
theorem dX7_comesBackToRoute_0 : decode cX7_comesBackToRoute 0 = .ok (.iconst 1, 1) := by decide +kernel
theorem dX7_comesBackToRoute_1 : decode cX7_comesBackToRoute 1 = .ok (.istore_n 2, 1) := by decide +kernel
theorem dX7_comesBackToRoute_2 : decode cX7_comesBackToRoute 2 = .ok (.iload_n 2, 1) := by decide +kernel
theorem dX7_comesBackToRoute_3 : decode cX7_comesBackToRoute 3 = .ok (.aload_n 0, 1) := by decide +kernel
theorem dX7_comesBackToRoute_4 : decode cX7_comesBackToRoute 4 = .ok (.iload_n 1, 1) := by decide +kernel
theorem dX7_comesBackToRoute_5 : decode cX7_comesBackToRoute 5 = .ok (.invokevirtual 60, 3) := by decide +kernel
theorem dX7_comesBackToRoute_8 : decode cX7_comesBackToRoute 8 = .ok (.if_icmp .ge 27, 3) := by decide +kernel
theorem dX7_comesBackToRoute_11 : decode cX7_comesBackToRoute 11 = .ok (.aload_n 0, 1) := by decide +kernel
theorem dX7_comesBackToRoute_12 : decode cX7_comesBackToRoute 12 = .ok (.getfield 38, 3) := by decide +kernel
theorem dX7_comesBackToRoute_15 : decode cX7_comesBackToRoute 15 = .ok (.aload_n 0, 1) := by decide +kernel
theorem dX7_comesBackToRoute_16 : decode cX7_comesBackToRoute 16 = .ok (.iload_n 1, 1) := by decide +kernel
theorem dX7_comesBackToRoute_17 : decode cX7_comesBackToRoute 17 = .ok (.iload_n 2, 1) := by decide +kernel
theorem dX7_comesBackToRoute_18 : decode cX7_comesBackToRoute 18 = .ok (.invokevirtual 63, 3) := by decide +kernel
theorem dX7_comesBackToRoute_21 : decode cX7_comesBackToRoute 21 = .ok (.invokevirtual 82, 3) := by decide +kernel
theorem dX7_comesBackToRoute_24 : decode cX7_comesBackToRoute 24 = .ok (.ifCond .eq 5, 3) := by decide +kernel
theorem dX7_comesBackToRoute_27 : decode cX7_comesBackToRoute 27 = .ok (.iconst 1, 1) := by decide +kernel
theorem dX7_comesBackToRoute_28 : decode cX7_comesBackToRoute 28 = .ok (.ireturn, 1) := by decide +kernel
theorem dX7_comesBackToRoute_29 : decode cX7_comesBackToRoute 29 = .ok (.iinc 2 1, 3) := by decide +kernel
theorem dX7_comesBackToRoute_32 : decode cX7_comesBackToRoute 32 = .ok (.goto (-30), 3) := by decide +kernel
theorem dX7_comesBackToRoute_35 : decode cX7_comesBackToRoute 35 = .ok (.iconst 0, 1) := by decide +kernel
theorem dX7_comesBackToRoute_36 : decode cX7_comesBackToRoute 36 = .ok (.ireturn, 1) := by decide +kernel
theorem dX7_wholeLength_0 : decode cX7_wholeLength 0 = .ok (.iconst 0, 1) := by decide +kernel
theorem dX7_wholeLength_1 : decode cX7_wholeLength 1 = .ok (.istore_n 2, 1) := by decide +kernel
theorem dX7_wholeLength_2 : decode cX7_wholeLength 2 = .ok (.iconst 1, 1) := by decide +kernel
theorem dX7_wholeLength_3 : decode cX7_wholeLength 3 = .ok (.istore_n 3, 1) := by decide +kernel
theorem dX7_wholeLength_4 : decode cX7_wholeLength 4 = .ok (.iload_n 3, 1) := by decide +kernel
theorem dX7_wholeLength_5 : decode cX7_wholeLength 5 = .ok (.aload_n 0, 1) := by decide +kernel
theorem dX7_wholeLength_6 : decode cX7_wholeLength 6 = .ok (.iload_n 1, 1) := by decide +kernel
theorem dX7_wholeLength_7 : decode cX7_wholeLength 7 = .ok (.invokevirtual 60, 3) := by decide +kernel
theorem dX7_wholeLength_10 : decode cX7_wholeLength 10 = .ok (.if_icmp .ge 40, 3) := by decide +kernel
theorem dX7_wholeLength_13 : decode cX7_wholeLength 13 = .ok (.iload_n 2, 1) := by decide +kernel
theorem dX7_wholeLength_14 : decode cX7_wholeLength 14 = .ok (.aload_n 0, 1) := by decide +kernel
theorem dX7_wholeLength_15 : decode cX7_wholeLength 15 = .ok (.getfield 34, 3) := by decide +kernel
theorem dX7_wholeLength_18 : decode cX7_wholeLength 18 = .ok (.aload_n 0, 1) := by decide +kernel
theorem dX7_wholeLength_19 : decode cX7_wholeLength 19 = .ok (.getfield 34, 3) := by decide +kernel
theorem dX7_wholeLength_22 : decode cX7_wholeLength 22 = .ok (.aload_n 0, 1) := by decide +kernel
theorem dX7_wholeLength_23 : decode cX7_wholeLength 23 = .ok (.iload_n 1, 1) := by decide +kernel
theorem dX7_wholeLength_24 : decode cX7_wholeLength 24 = .ok (.iload_n 3, 1) := by decide +kernel
theorem dX7_wholeLength_25 : decode cX7_wholeLength 25 = .ok (.iconst 1, 1) := by decide +kernel
theorem dX7_wholeLength_26 : decode cX7_wholeLength 26 = .ok (.isub, 1) := by decide +kernel
theorem dX7_wholeLength_27 : decode cX7_wholeLength 27 = .ok (.invokevirtual 63, 3) := by decide +kernel
theorem dX7_wholeLength_30 : decode cX7_wholeLength 30 = .ok (.aload_n 0, 1) := by decide +kernel
theorem dX7_wholeLength_31 : decode cX7_wholeLength 31 = .ok (.iload_n 1, 1) := by decide +kernel
theorem dX7_wholeLength_32 : decode cX7_wholeLength 32 = .ok (.iload_n 3, 1) := by decide +kernel
theorem dX7_wholeLength_33 : decode cX7_wholeLength 33 = .ok (.invokevirtual 63, 3) := by decide +kernel
theorem dX7_wholeLength_36 : decode cX7_wholeLength 36 = .ok (.invokevirtual 69, 3) := by decide +kernel
theorem dX7_wholeLength_39 : decode cX7_wholeLength 39 = .ok (.invokevirtual 97, 3) := by decide +kernel
theorem dX7_wholeLength_42 : decode cX7_wholeLength 42 = .ok (.iadd, 1) := by decide +kernel
theorem dX7_wholeLength_43 : decode cX7_wholeLength 43 = .ok (.istore_n 2, 1) := by decide +kernel
theorem dX7_wholeLength_44 : decode cX7_wholeLength 44 = .ok (.iinc 3 1, 3) := by decide +kernel
theorem dX7_wholeLength_47 : decode cX7_wholeLength 47 = .ok (.goto (-43), 3) := by decide +kernel
theorem dX7_wholeLength_50 : decode cX7_wholeLength 50 = .ok (.iload_n 2, 1) := by decide +kernel
theorem dX7_wholeLength_51 : decode cX7_wholeLength 51 = .ok (.ireturn, 1) := by decide +kernel
theorem dX7_crosses_0 : decode cX7_crosses 0 = .ok (.iconst 0, 1) := by decide +kernel
theorem dX7_crosses_1 : decode cX7_crosses 1 = .ok (.istore_n 3, 1) := by decide +kernel
theorem dX7_crosses_2 : decode cX7_crosses 2 = .ok (.iload_n 3, 1) := by decide +kernel
theorem dX7_crosses_3 : decode cX7_crosses 3 = .ok (.aload_n 0, 1) := by decide +kernel
theorem dX7_crosses_4 : decode cX7_crosses 4 = .ok (.iload_n 1, 1) := by decide +kernel
theorem dX7_crosses_5 : decode cX7_crosses 5 = .ok (.invokevirtual 60, 3) := by decide +kernel
theorem dX7_crosses_8 : decode cX7_crosses 8 = .ok (.if_icmp .ge 38, 3) := by decide +kernel
theorem dX7_crosses_11 : decode cX7_crosses 11 = .ok (.aload_n 0, 1) := by decide +kernel
theorem dX7_crosses_12 : decode cX7_crosses 12 = .ok (.iload_n 2, 1) := by decide +kernel
theorem dX7_crosses_13 : decode cX7_crosses 13 = .ok (.aload_n 0, 1) := by decide +kernel
theorem dX7_crosses_14 : decode cX7_crosses 14 = .ok (.iload_n 1, 1) := by decide +kernel
theorem dX7_crosses_15 : decode cX7_crosses 15 = .ok (.iload_n 3, 1) := by decide +kernel
theorem dX7_crosses_16 : decode cX7_crosses 16 = .ok (.invokevirtual 63, 3) := by decide +kernel
theorem dX7_crosses_19 : decode cX7_crosses 19 = .ok (.invokevirtual 66, 3) := by decide +kernel
theorem dX7_crosses_22 : decode cX7_crosses 22 = .ok (.istore 4, 2) := by decide +kernel
theorem dX7_crosses_24 : decode cX7_crosses 24 = .ok (.iload 4, 2) := by decide +kernel
theorem dX7_crosses_26 : decode cX7_crosses 26 = .ok (.ifCond .gt 12, 3) := by decide +kernel
theorem dX7_crosses_29 : decode cX7_crosses 29 = .ok (.iload 4, 2) := by decide +kernel
theorem dX7_crosses_31 : decode cX7_crosses 31 = .ok (.ifCond .ne 9, 3) := by decide +kernel
theorem dX7_crosses_34 : decode cX7_crosses 34 = .ok (.iload_n 3, 1) := by decide +kernel
theorem dX7_crosses_35 : decode cX7_crosses 35 = .ok (.ifCond .le 5, 3) := by decide +kernel
theorem dX7_crosses_38 : decode cX7_crosses 38 = .ok (.iconst 1, 1) := by decide +kernel
theorem dX7_crosses_39 : decode cX7_crosses 39 = .ok (.ireturn, 1) := by decide +kernel
theorem dX7_crosses_40 : decode cX7_crosses 40 = .ok (.iinc 3 1, 3) := by decide +kernel
theorem dX7_crosses_43 : decode cX7_crosses 43 = .ok (.goto (-41), 3) := by decide +kernel
theorem dX7_crosses_46 : decode cX7_crosses 46 = .ok (.iconst 0, 1) := by decide +kernel
theorem dX7_crosses_47 : decode cX7_crosses 47 = .ok (.ireturn, 1) := by decide +kernel
theorem dX8_init_0 : decode cX8_init 0 = .ok (.aload_n 0, 1) := by decide +kernel
theorem dX8_init_1 : decode cX8_init 1 = .ok (.invokespecial 3, 3) := by decide +kernel
theorem dX8_init_4 : decode cX8_init 4 = .ok (.aload_n 0, 1) := by decide +kernel
theorem dX8_init_5 : decode cX8_init 5 = .ok (.new 9, 3) := by decide +kernel
theorem dX8_init_8 : decode cX8_init 8 = .ok (.dup, 1) := by decide +kernel
theorem dX8_init_9 : decode cX8_init 9 = .ok (.bipush 31, 2) := by decide +kernel
theorem dX8_init_11 : decode cX8_init 11 = .ok (.invokespecial 13, 3) := by decide +kernel
theorem dX8_init_14 : decode cX8_init 14 = .ok (.putfield 16, 3) := by decide +kernel
theorem dX8_init_17 : decode cX8_init 17 = .ok (.aload_n 0, 1) := by decide +kernel
theorem dX8_init_18 : decode cX8_init 18 = .ok (.iconst 0, 1) := by decide +kernel
theorem dX8_init_19 : decode cX8_init 19 = .ok (.putfield 20, 3) := by decide +kernel
theorem dX8_init_22 : decode cX8_init 22 = .ok (.aload_n 0, 1) := by decide +kernel
theorem dX8_init_23 : decode cX8_init 23 = .ok (.iconst 0, 1) := by decide +kernel
theorem dX8_init_24 : decode cX8_init 24 = .ok (.putfield 24, 3) := by decide +kernel
theorem dX8_init_27 : decode cX8_init 27 = .ok (.aload_n 0, 1) := by decide +kernel
theorem dX8_init_28 : decode cX8_init 28 = .ok (.aload_n 1, 1) := by decide +kernel
theorem dX8_init_29 : decode cX8_init 29 = .ok (.putfield 27, 3) := by decide +kernel
theorem dX8_init_32 : decode cX8_init 32 = .ok (.aload_n 0, 1) := by decide +kernel
theorem dX8_init_33 : decode cX8_init 33 = .ok (.aload_n 2, 1) := by decide +kernel
theorem dX8_init_34 : decode cX8_init 34 = .ok (.putfield 31, 3) := by decide +kernel
theorem dX8_init_37 : decode cX8_init 37 = .ok (.return_, 1) := by decide +kernel
theorem dX8_choice_0 : decode cX8_choice 0 = .ok (.iconst (-1), 1) := by decide +kernel
theorem dX8_choice_1 : decode cX8_choice 1 = .ok (.istore_n 3, 1) := by decide +kernel
theorem dX8_choice_2 : decode cX8_choice 2 = .ok (.iconst 0, 1) := by decide +kernel
theorem dX8_choice_3 : decode cX8_choice 3 = .ok (.istore 4, 2) := by decide +kernel
theorem dX8_choice_5 : decode cX8_choice 5 = .ok (.iconst 0, 1) := by decide +kernel
theorem dX8_choice_6 : decode cX8_choice 6 = .ok (.istore 5, 2) := by decide +kernel
theorem dX8_choice_8 : decode cX8_choice 8 = .ok (.iload 5, 2) := by decide +kernel
theorem dX8_choice_10 : decode cX8_choice 10 = .ok (.aload_n 0, 1) := by decide +kernel
theorem dX8_choice_11 : decode cX8_choice 11 = .ok (.getfield 31, 3) := by decide +kernel
theorem dX8_choice_14 : decode cX8_choice 14 = .ok (.invokevirtual 35, 3) := by decide +kernel
theorem dX8_choice_17 : decode cX8_choice 17 = .ok (.if_icmp .ge 94, 3) := by decide +kernel
theorem dX8_choice_20 : decode cX8_choice 20 = .ok (.aload_n 0, 1) := by decide +kernel
theorem dX8_choice_21 : decode cX8_choice 21 = .ok (.getfield 31, 3) := by decide +kernel
theorem dX8_choice_24 : decode cX8_choice 24 = .ok (.iload 5, 2) := by decide +kernel
theorem dX8_choice_26 : decode cX8_choice 26 = .ok (.iload_n 1, 1) := by decide +kernel
theorem dX8_choice_27 : decode cX8_choice 27 = .ok (.iload_n 2, 1) := by decide +kernel
theorem dX8_choice_28 : decode cX8_choice 28 = .ok (.invokevirtual 41, 3) := by decide +kernel
theorem dX8_choice_31 : decode cX8_choice 31 = .ok (.ifCond .ne 6, 3) := by decide +kernel
theorem dX8_choice_34 : decode cX8_choice 34 = .ok (.goto 71, 3) := by decide +kernel
theorem dX8_choice_37 : decode cX8_choice 37 = .ok (.aload_n 0, 1) := by decide +kernel
theorem dX8_choice_38 : decode cX8_choice 38 = .ok (.getfield 31, 3) := by decide +kernel
theorem dX8_choice_41 : decode cX8_choice 41 = .ok (.iload 5, 2) := by decide +kernel
theorem dX8_choice_43 : decode cX8_choice 43 = .ok (.invokevirtual 45, 3) := by decide +kernel
theorem dX8_choice_46 : decode cX8_choice 46 = .ok (.istore 6, 2) := by decide +kernel
theorem dX8_choice_48 : decode cX8_choice 48 = .ok (.aload_n 0, 1) := by decide +kernel
theorem dX8_choice_49 : decode cX8_choice 49 = .ok (.getfield 31, 3) := by decide +kernel
theorem dX8_choice_52 : decode cX8_choice 52 = .ok (.iload 5, 2) := by decide +kernel
theorem dX8_choice_54 : decode cX8_choice 54 = .ok (.invokevirtual 49, 3) := by decide +kernel
theorem dX8_choice_57 : decode cX8_choice 57 = .ok (.istore 7, 2) := by decide +kernel
theorem dX8_choice_59 : decode cX8_choice 59 = .ok (.iload 6, 2) := by decide +kernel
theorem dX8_choice_61 : decode cX8_choice 61 = .ok (.iconst 2, 1) := by decide +kernel
theorem dX8_choice_62 : decode cX8_choice 62 = .ok (.if_icmp .ne 11, 3) := by decide +kernel
theorem dX8_choice_65 : decode cX8_choice 65 = .ok (.iload 7, 2) := by decide +kernel
theorem dX8_choice_67 : decode cX8_choice 67 = .ok (.ifCond .ne 6, 3) := by decide +kernel
theorem dX8_choice_70 : decode cX8_choice 70 = .ok (.bipush (-3), 2) := by decide +kernel
theorem dX8_choice_72 : decode cX8_choice 72 = .ok (.ireturn, 1) := by decide +kernel
theorem dX8_choice_73 : decode cX8_choice 73 = .ok (.iload 6, 2) := by decide +kernel
theorem dX8_choice_75 : decode cX8_choice 75 = .ok (.ifCond .ne 8, 3) := by decide +kernel
theorem dX8_choice_78 : decode cX8_choice 78 = .ok (.iload 7, 2) := by decide +kernel
theorem dX8_choice_80 : decode cX8_choice 80 = .ok (.goto 4, 3) := by decide +kernel
theorem dX8_choice_83 : decode cX8_choice 83 = .ok (.iload_n 3, 1) := by decide +kernel
theorem dX8_choice_84 : decode cX8_choice 84 = .ok (.istore_n 3, 1) := by decide +kernel
theorem dX8_choice_85 : decode cX8_choice 85 = .ok (.iload 4, 2) := by decide +kernel
theorem dX8_choice_87 : decode cX8_choice 87 = .ok (.iload 6, 2) := by decide +kernel
theorem dX8_choice_89 : decode cX8_choice 89 = .ok (.iconst 1, 1) := by decide +kernel
theorem dX8_choice_90 : decode cX8_choice 90 = .ok (.if_icmp .ne 11, 3) := by decide +kernel
theorem dX8_choice_93 : decode cX8_choice 93 = .ok (.iload 7, 2) := by decide +kernel
theorem dX8_choice_95 : decode cX8_choice 95 = .ok (.invokestatic 52, 3) := by decide +kernel
theorem dX8_choice_98 : decode cX8_choice 98 = .ok (.goto 4, 3) := by decide +kernel
theorem dX8_choice_101 : decode cX8_choice 101 = .ok (.iconst 0, 1) := by decide +kernel
theorem dX8_choice_102 : decode cX8_choice 102 = .ok (.ior, 1) := by decide +kernel
theorem dX8_choice_103 : decode cX8_choice 103 = .ok (.istore 4, 2) := by decide +kernel
theorem dX8_choice_105 : decode cX8_choice 105 = .ok (.iinc 5 1, 3) := by decide +kernel
theorem dX8_choice_108 : decode cX8_choice 108 = .ok (.goto (-100), 3) := by decide +kernel
theorem dX8_choice_111 : decode cX8_choice 111 = .ok (.iload_n 3, 1) := by decide +kernel
theorem dX8_choice_112 : decode cX8_choice 112 = .ok (.iconst (-1), 1) := by decide +kernel
theorem dX8_choice_113 : decode cX8_choice 113 = .ok (.if_icmp .eq 7, 3) := by decide +kernel
theorem dX8_choice_116 : decode cX8_choice 116 = .ok (.iload_n 3, 1) := by decide +kernel
theorem dX8_choice_117 : decode cX8_choice 117 = .ok (.goto 24, 3) := by decide +kernel
theorem dX8_choice_120 : decode cX8_choice 120 = .ok (.aload_n 0, 1) := by decide +kernel
theorem dX8_choice_121 : decode cX8_choice 121 = .ok (.aload_n 0, 1) := by decide +kernel
theorem dX8_choice_122 : decode cX8_choice 122 = .ok (.getfield 27, 3) := by decide +kernel
theorem dX8_choice_125 : decode cX8_choice 125 = .ok (.iload_n 1, 1) := by decide +kernel
theorem dX8_choice_126 : decode cX8_choice 126 = .ok (.invokevirtual 55, 3) := by decide +kernel
theorem dX8_choice_129 : decode cX8_choice 129 = .ok (.iload_n 2, 1) := by decide +kernel
theorem dX8_choice_130 : decode cX8_choice 130 = .ok (.invokestatic 52, 3) := by decide +kernel
theorem dX8_choice_133 : decode cX8_choice 133 = .ok (.iconst (-1), 1) := by decide +kernel
theorem dX8_choice_134 : decode cX8_choice 134 = .ok (.ixor, 1) := by decide +kernel
theorem dX8_choice_135 : decode cX8_choice 135 = .ok (.iand, 1) := by decide +kernel
theorem dX8_choice_136 : decode cX8_choice 136 = .ok (.iload 4, 2) := by decide +kernel
theorem dX8_choice_138 : decode cX8_choice 138 = .ok (.invokevirtual 60, 3) := by decide +kernel
theorem dX8_choice_141 : decode cX8_choice 141 = .ok (.ireturn, 1) := by decide +kernel
theorem dX8_choiceAmong_0 : decode cX8_choiceAmong 0 = .ok (.iload_n 1, 1) := by decide +kernel
theorem dX8_choiceAmong_1 : decode cX8_choiceAmong 1 = .ok (.iload_n 2, 1) := by decide +kernel
theorem dX8_choiceAmong_2 : decode cX8_choiceAmong 2 = .ok (.iconst (-1), 1) := by decide +kernel
theorem dX8_choiceAmong_3 : decode cX8_choiceAmong 3 = .ok (.ixor, 1) := by decide +kernel
theorem dX8_choiceAmong_4 : decode cX8_choiceAmong 4 = .ok (.iand, 1) := by decide +kernel
theorem dX8_choiceAmong_5 : decode cX8_choiceAmong 5 = .ok (.istore_n 3, 1) := by decide +kernel
theorem dX8_choiceAmong_6 : decode cX8_choiceAmong 6 = .ok (.iload_n 3, 1) := by decide +kernel
theorem dX8_choiceAmong_7 : decode cX8_choiceAmong 7 = .ok (.invokestatic 64, 3) := by decide +kernel
theorem dX8_choiceAmong_10 : decode cX8_choiceAmong 10 = .ok (.iconst 1, 1) := by decide +kernel
theorem dX8_choiceAmong_11 : decode cX8_choiceAmong 11 = .ok (.if_icmp .ne 10, 3) := by decide +kernel
theorem dX8_choiceAmong_14 : decode cX8_choiceAmong 14 = .ok (.iload_n 3, 1) := by decide +kernel
theorem dX8_choiceAmong_15 : decode cX8_choiceAmong 15 = .ok (.iconst 1, 1) := by decide +kernel
theorem dX8_choiceAmong_16 : decode cX8_choiceAmong 16 = .ok (.isub, 1) := by decide +kernel
theorem dX8_choiceAmong_17 : decode cX8_choiceAmong 17 = .ok (.invokestatic 64, 3) := by decide +kernel
theorem dX8_choiceAmong_20 : decode cX8_choiceAmong 20 = .ok (.ireturn, 1) := by decide +kernel
theorem dX8_choiceAmong_21 : decode cX8_choiceAmong 21 = .ok (.iload_n 1, 1) := by decide +kernel
theorem dX8_choiceAmong_22 : decode cX8_choiceAmong 22 = .ok (.ifCond .ne 8, 3) := by decide +kernel
theorem dX8_choiceAmong_25 : decode cX8_choiceAmong 25 = .ok (.bipush (-2), 2) := by decide +kernel
theorem dX8_choiceAmong_27 : decode cX8_choiceAmong 27 = .ok (.goto 4, 3) := by decide +kernel
theorem dX8_choiceAmong_30 : decode cX8_choiceAmong 30 = .ok (.iconst (-1), 1) := by decide +kernel
theorem dX8_choiceAmong_31 : decode cX8_choiceAmong 31 = .ok (.ireturn, 1) := by decide +kernel
theorem dX8_goFrom_0 : decode cX8_goFrom 0 = .ok (.aload_n 0, 1) := by decide +kernel
theorem dX8_goFrom_1 : decode cX8_goFrom 1 = .ok (.getfield 16, 3) := by decide +kernel
theorem dX8_goFrom_4 : decode cX8_goFrom 4 = .ok (.invokevirtual 69, 3) := by decide +kernel
theorem dX8_goFrom_7 : decode cX8_goFrom 7 = .ok (.pop, 1) := by decide +kernel
theorem dX8_goFrom_8 : decode cX8_goFrom 8 = .ok (.aload_n 0, 1) := by decide +kernel
theorem dX8_goFrom_9 : decode cX8_goFrom 9 = .ok (.getfield 16, 3) := by decide +kernel
theorem dX8_goFrom_12 : decode cX8_goFrom 12 = .ok (.iload_n 1, 1) := by decide +kernel
theorem dX8_goFrom_13 : decode cX8_goFrom 13 = .ok (.invokevirtual 72, 3) := by decide +kernel
theorem dX8_goFrom_16 : decode cX8_goFrom 16 = .ok (.pop, 1) := by decide +kernel
theorem dX8_goFrom_17 : decode cX8_goFrom 17 = .ok (.aload_n 0, 1) := by decide +kernel
theorem dX8_goFrom_18 : decode cX8_goFrom 18 = .ok (.iconst 0, 1) := by decide +kernel
theorem dX8_goFrom_19 : decode cX8_goFrom 19 = .ok (.putfield 24, 3) := by decide +kernel
theorem dX8_goFrom_22 : decode cX8_goFrom 22 = .ok (.iload_n 1, 1) := by decide +kernel
theorem dX8_goFrom_23 : decode cX8_goFrom 23 = .ok (.istore_n 2, 1) := by decide +kernel
theorem dX8_goFrom_24 : decode cX8_goFrom 24 = .ok (.iconst (-1), 1) := by decide +kernel
theorem dX8_goFrom_25 : decode cX8_goFrom 25 = .ok (.istore_n 3, 1) := by decide +kernel
theorem dX8_goFrom_26 : decode cX8_goFrom 26 = .ok (.iconst 0, 1) := by decide +kernel
theorem dX8_goFrom_27 : decode cX8_goFrom 27 = .ok (.istore 4, 2) := by decide +kernel
theorem dX8_goFrom_29 : decode cX8_goFrom 29 = .ok (.iconst 0, 1) := by decide +kernel
theorem dX8_goFrom_30 : decode cX8_goFrom 30 = .ok (.istore 5, 2) := by decide +kernel
theorem dX8_goFrom_32 : decode cX8_goFrom 32 = .ok (.iload 5, 2) := by decide +kernel
theorem dX8_goFrom_34 : decode cX8_goFrom 34 = .ok (.bipush 30, 2) := by decide +kernel
theorem dX8_goFrom_36 : decode cX8_goFrom 36 = .ok (.if_icmp .gt 118, 3) := by decide +kernel
theorem dX8_goFrom_39 : decode cX8_goFrom 39 = .ok (.aload_n 0, 1) := by decide +kernel
theorem dX8_goFrom_40 : decode cX8_goFrom 40 = .ok (.iload_n 2, 1) := by decide +kernel
theorem dX8_goFrom_41 : decode cX8_goFrom 41 = .ok (.iload_n 3, 1) := by decide +kernel
theorem dX8_goFrom_42 : decode cX8_goFrom 42 = .ok (.invokevirtual 75, 3) := by decide +kernel
theorem dX8_goFrom_45 : decode cX8_goFrom 45 = .ok (.istore 6, 2) := by decide +kernel
theorem dX8_goFrom_47 : decode cX8_goFrom 47 = .ok (.iload 6, 2) := by decide +kernel
theorem dX8_goFrom_49 : decode cX8_goFrom 49 = .ok (.ifCond .ge 12, 3) := by decide +kernel
theorem dX8_goFrom_52 : decode cX8_goFrom 52 = .ok (.aload_n 0, 1) := by decide +kernel
theorem dX8_goFrom_53 : decode cX8_goFrom 53 = .ok (.iconst (-1), 1) := by decide +kernel
theorem dX8_goFrom_54 : decode cX8_goFrom 54 = .ok (.iload 6, 2) := by decide +kernel
theorem dX8_goFrom_56 : decode cX8_goFrom 56 = .ok (.isub, 1) := by decide +kernel
theorem dX8_goFrom_57 : decode cX8_goFrom 57 = .ok (.putfield 20, 3) := by decide +kernel
theorem dX8_goFrom_60 : decode cX8_goFrom 60 = .ok (.return_, 1) := by decide +kernel
theorem dX8_goFrom_61 : decode cX8_goFrom 61 = .ok (.iload 5, 2) := by decide +kernel
theorem dX8_goFrom_63 : decode cX8_goFrom 63 = .ok (.bipush 30, 2) := by decide +kernel
theorem dX8_goFrom_65 : decode cX8_goFrom 65 = .ok (.if_icmp .ne 6, 3) := by decide +kernel
theorem dX8_goFrom_68 : decode cX8_goFrom 68 = .ok (.goto 86, 3) := by decide +kernel
theorem dX8_goFrom_71 : decode cX8_goFrom 71 = .ok (.aload_n 0, 1) := by decide +kernel
theorem dX8_goFrom_72 : decode cX8_goFrom 72 = .ok (.getfield 27, 3) := by decide +kernel
theorem dX8_goFrom_75 : decode cX8_goFrom 75 = .ok (.iload_n 2, 1) := by decide +kernel
theorem dX8_goFrom_76 : decode cX8_goFrom 76 = .ok (.iload 6, 2) := by decide +kernel
end
section
theorem dX8_goFrom_78 : decode cX8_goFrom 78 = .ok (.invokevirtual 78, 3) := by decide +kernel
theorem dX8_goFrom_81 : decode cX8_goFrom 81 = .ok (.istore 7, 2) := by decide +kernel
theorem dX8_goFrom_83 : decode cX8_goFrom 83 = .ok (.aload_n 0, 1) := by decide +kernel
theorem dX8_goFrom_84 : decode cX8_goFrom 84 = .ok (.getfield 27, 3) := by decide +kernel
theorem dX8_goFrom_87 : decode cX8_goFrom 87 = .ok (.iload 7, 2) := by decide +kernel
theorem dX8_goFrom_89 : decode cX8_goFrom 89 = .ok (.invokevirtual 81, 3) := by decide +kernel
theorem dX8_goFrom_92 : decode cX8_goFrom 92 = .ok (.istore_n 2, 1) := by decide +kernel
theorem dX8_goFrom_93 : decode cX8_goFrom 93 = .ok (.iload 6, 2) := by decide +kernel
theorem dX8_goFrom_95 : decode cX8_goFrom 95 = .ok (.istore_n 3, 1) := by decide +kernel
theorem dX8_goFrom_96 : decode cX8_goFrom 96 = .ok (.aload_n 0, 1) := by decide +kernel
theorem dX8_goFrom_97 : decode cX8_goFrom 97 = .ok (.getfield 16, 3) := by decide +kernel
theorem dX8_goFrom_100 : decode cX8_goFrom 100 = .ok (.iload_n 2, 1) := by decide +kernel
theorem dX8_goFrom_101 : decode cX8_goFrom 101 = .ok (.invokevirtual 72, 3) := by decide +kernel
theorem dX8_goFrom_104 : decode cX8_goFrom 104 = .ok (.pop, 1) := by decide +kernel
theorem dX8_goFrom_105 : decode cX8_goFrom 105 = .ok (.aload_n 0, 1) := by decide +kernel
theorem dX8_goFrom_106 : decode cX8_goFrom 106 = .ok (.dup, 1) := by decide +kernel
theorem dX8_goFrom_107 : decode cX8_goFrom 107 = .ok (.getfield 24, 3) := by decide +kernel
theorem dX8_goFrom_110 : decode cX8_goFrom 110 = .ok (.aload_n 0, 1) := by decide +kernel
theorem dX8_goFrom_111 : decode cX8_goFrom 111 = .ok (.getfield 27, 3) := by decide +kernel
theorem dX8_goFrom_114 : decode cX8_goFrom 114 = .ok (.iload 6, 2) := by decide +kernel
theorem dX8_goFrom_116 : decode cX8_goFrom 116 = .ok (.invokevirtual 84, 3) := by decide +kernel
theorem dX8_goFrom_119 : decode cX8_goFrom 119 = .ok (.iadd, 1) := by decide +kernel
theorem dX8_goFrom_120 : decode cX8_goFrom 120 = .ok (.putfield 24, 3) := by decide +kernel
theorem dX8_goFrom_123 : decode cX8_goFrom 123 = .ok (.iload 4, 2) := by decide +kernel
theorem dX8_goFrom_125 : decode cX8_goFrom 125 = .ok (.iconst 1, 1) := by decide +kernel
theorem dX8_goFrom_126 : decode cX8_goFrom 126 = .ok (.iload 7, 2) := by decide +kernel
theorem dX8_goFrom_128 : decode cX8_goFrom 128 = .ok (.ishl, 1) := by decide +kernel
theorem dX8_goFrom_129 : decode cX8_goFrom 129 = .ok (.iand, 1) := by decide +kernel
theorem dX8_goFrom_130 : decode cX8_goFrom 130 = .ok (.ifCond .eq 9, 3) := by decide +kernel
theorem dX8_goFrom_133 : decode cX8_goFrom 133 = .ok (.aload_n 0, 1) := by decide +kernel
theorem dX8_goFrom_134 : decode cX8_goFrom 134 = .ok (.iconst 3, 1) := by decide +kernel
theorem dX8_goFrom_135 : decode cX8_goFrom 135 = .ok (.putfield 20, 3) := by decide +kernel
theorem dX8_goFrom_138 : decode cX8_goFrom 138 = .ok (.return_, 1) := by decide +kernel
theorem dX8_goFrom_139 : decode cX8_goFrom 139 = .ok (.iload 4, 2) := by decide +kernel
theorem dX8_goFrom_141 : decode cX8_goFrom 141 = .ok (.iconst 1, 1) := by decide +kernel
theorem dX8_goFrom_142 : decode cX8_goFrom 142 = .ok (.iload 7, 2) := by decide +kernel
theorem dX8_goFrom_144 : decode cX8_goFrom 144 = .ok (.ishl, 1) := by decide +kernel
theorem dX8_goFrom_145 : decode cX8_goFrom 145 = .ok (.ior, 1) := by decide +kernel
theorem dX8_goFrom_146 : decode cX8_goFrom 146 = .ok (.istore 4, 2) := by decide +kernel
theorem dX8_goFrom_148 : decode cX8_goFrom 148 = .ok (.iinc 5 1, 3) := by decide +kernel
theorem dX8_goFrom_151 : decode cX8_goFrom 151 = .ok (.goto (-119), 3) := by decide +kernel
theorem dX8_goFrom_154 : decode cX8_goFrom 154 = .ok (.aload_n 0, 1) := by decide +kernel
theorem dX8_goFrom_155 : decode cX8_goFrom 155 = .ok (.iconst 4, 1) := by decide +kernel
theorem dX8_goFrom_156 : decode cX8_goFrom 156 = .ok (.putfield 20, 3) := by decide +kernel
theorem dX8_goFrom_159 : decode cX8_goFrom 159 = .ok (.return_, 1) := by decide +kernel
theorem dX8_tell_0 : decode cX8_tell 0 = .ok (.iload_n 1, 1) := by decide +kernel
theorem dX8_tell_1 : decode cX8_tell 1 = .ok (.tableswitch 59 0 2 #[27, 32, 49], 27) := by decide +kernel
theorem dX8_tell_28 : decode cX8_tell 28 = .ok (.aload_n 0, 1) := by decide +kernel
theorem dX8_tell_29 : decode cX8_tell 29 = .ok (.getfield 20, 3) := by decide +kernel
theorem dX8_tell_32 : decode cX8_tell 32 = .ok (.ireturn, 1) := by decide +kernel
theorem dX8_tell_33 : decode cX8_tell 33 = .ok (.aload_n 0, 1) := by decide +kernel
theorem dX8_tell_34 : decode cX8_tell 34 = .ok (.getfield 16, 3) := by decide +kernel
theorem dX8_tell_37 : decode cX8_tell 37 = .ok (.aload_n 0, 1) := by decide +kernel
theorem dX8_tell_38 : decode cX8_tell 38 = .ok (.getfield 16, 3) := by decide +kernel
theorem dX8_tell_41 : decode cX8_tell 41 = .ok (.invokevirtual 87, 3) := by decide +kernel
theorem dX8_tell_44 : decode cX8_tell 44 = .ok (.iconst 1, 1) := by decide +kernel
theorem dX8_tell_45 : decode cX8_tell 45 = .ok (.isub, 1) := by decide +kernel
theorem dX8_tell_46 : decode cX8_tell 46 = .ok (.invokevirtual 90, 3) := by decide +kernel
theorem dX8_tell_49 : decode cX8_tell 49 = .ok (.ireturn, 1) := by decide +kernel
theorem dX8_tell_50 : decode cX8_tell 50 = .ok (.aload_n 0, 1) := by decide +kernel
theorem dX8_tell_51 : decode cX8_tell 51 = .ok (.getfield 16, 3) := by decide +kernel
theorem dX8_tell_54 : decode cX8_tell 54 = .ok (.invokevirtual 87, 3) := by decide +kernel
theorem dX8_tell_57 : decode cX8_tell 57 = .ok (.iconst 1, 1) := by decide +kernel
theorem dX8_tell_58 : decode cX8_tell 58 = .ok (.isub, 1) := by decide +kernel
theorem dX8_tell_59 : decode cX8_tell 59 = .ok (.ireturn, 1) := by decide +kernel
theorem dX8_tell_60 : decode cX8_tell 60 = .ok (.aload_n 0, 1) := by decide +kernel
theorem dX8_tell_61 : decode cX8_tell 61 = .ok (.getfield 24, 3) := by decide +kernel
theorem dX8_tell_64 : decode cX8_tell 64 = .ok (.ireturn, 1) := by decide +kernel
theorem dX8_placeBehind_0 : decode cX8_placeBehind 0 = .ok (.aload_n 0, 1) := by decide +kernel
theorem dX8_placeBehind_1 : decode cX8_placeBehind 1 = .ok (.getfield 16, 3) := by decide +kernel
theorem dX8_placeBehind_4 : decode cX8_placeBehind 4 = .ok (.iload_n 1, 1) := by decide +kernel
theorem dX8_placeBehind_5 : decode cX8_placeBehind 5 = .ok (.invokevirtual 90, 3) := by decide +kernel
theorem dX8_placeBehind_8 : decode cX8_placeBehind 8 = .ok (.ireturn, 1) := by decide +kernel
theorem dX9_init_0 : decode cX9_init 0 = .ok (.aload_n 0, 1) := by decide +kernel
theorem dX9_init_1 : decode cX9_init 1 = .ok (.invokespecial 1, 3) := by decide +kernel
theorem dX9_init_4 : decode cX9_init 4 = .ok (.aload_n 0, 1) := by decide +kernel
theorem dX9_init_5 : decode cX9_init 5 = .ok (.new 7, 3) := by decide +kernel
theorem dX9_init_8 : decode cX9_init 8 = .ok (.dup, 1) := by decide +kernel
theorem dX9_init_9 : decode cX9_init 9 = .ok (.invokespecial 9, 3) := by decide +kernel
theorem dX9_init_12 : decode cX9_init 12 = .ok (.putfield 10, 3) := by decide +kernel
theorem dX9_init_15 : decode cX9_init 15 = .ok (.aload_n 0, 1) := by decide +kernel
theorem dX9_init_16 : decode cX9_init 16 = .ok (.new 16, 3) := by decide +kernel
theorem dX9_init_19 : decode cX9_init 19 = .ok (.dup, 1) := by decide +kernel
theorem dX9_init_20 : decode cX9_init 20 = .ok (.aload_n 0, 1) := by decide +kernel
theorem dX9_init_21 : decode cX9_init 21 = .ok (.getfield 10, 3) := by decide +kernel
theorem dX9_init_24 : decode cX9_init 24 = .ok (.invokespecial 18, 3) := by decide +kernel
theorem dX9_init_27 : decode cX9_init 27 = .ok (.putfield 21, 3) := by decide +kernel
theorem dX9_init_30 : decode cX9_init 30 = .ok (.aload_n 0, 1) := by decide +kernel
theorem dX9_init_31 : decode cX9_init 31 = .ok (.new 25, 3) := by decide +kernel
theorem dX9_init_34 : decode cX9_init 34 = .ok (.dup, 1) := by decide +kernel
theorem dX9_init_35 : decode cX9_init 35 = .ok (.aload_n 0, 1) := by decide +kernel
theorem dX9_init_36 : decode cX9_init 36 = .ok (.getfield 10, 3) := by decide +kernel
theorem dX9_init_39 : decode cX9_init 39 = .ok (.aload_n 0, 1) := by decide +kernel
theorem dX9_init_40 : decode cX9_init 40 = .ok (.getfield 21, 3) := by decide +kernel
theorem dX9_init_43 : decode cX9_init 43 = .ok (.invokespecial 27, 3) := by decide +kernel
theorem dX9_init_46 : decode cX9_init 46 = .ok (.putfield 30, 3) := by decide +kernel
theorem dX9_init_49 : decode cX9_init 49 = .ok (.aload_n 0, 1) := by decide +kernel
theorem dX9_init_50 : decode cX9_init 50 = .ok (.new 34, 3) := by decide +kernel
theorem dX9_init_53 : decode cX9_init 53 = .ok (.dup, 1) := by decide +kernel
theorem dX9_init_54 : decode cX9_init 54 = .ok (.aload_n 0, 1) := by decide +kernel
theorem dX9_init_55 : decode cX9_init 55 = .ok (.getfield 10, 3) := by decide +kernel
theorem dX9_init_58 : decode cX9_init 58 = .ok (.aload_n 0, 1) := by decide +kernel
theorem dX9_init_59 : decode cX9_init 59 = .ok (.getfield 21, 3) := by decide +kernel
theorem dX9_init_62 : decode cX9_init 62 = .ok (.invokespecial 36, 3) := by decide +kernel
theorem dX9_init_65 : decode cX9_init 65 = .ok (.putfield 37, 3) := by decide +kernel
theorem dX9_init_68 : decode cX9_init 68 = .ok (.aload_n 0, 1) := by decide +kernel
theorem dX9_init_69 : decode cX9_init 69 = .ok (.new 41, 3) := by decide +kernel
theorem dX9_init_72 : decode cX9_init 72 = .ok (.dup, 1) := by decide +kernel
theorem dX9_init_73 : decode cX9_init 73 = .ok (.aload_n 0, 1) := by decide +kernel
theorem dX9_init_74 : decode cX9_init 74 = .ok (.getfield 10, 3) := by decide +kernel
theorem dX9_init_77 : decode cX9_init 77 = .ok (.aload_n 0, 1) := by decide +kernel
theorem dX9_init_78 : decode cX9_init 78 = .ok (.getfield 30, 3) := by decide +kernel
theorem dX9_init_81 : decode cX9_init 81 = .ok (.invokespecial 43, 3) := by decide +kernel
theorem dX9_init_84 : decode cX9_init 84 = .ok (.putfield 46, 3) := by decide +kernel
theorem dX9_init_87 : decode cX9_init 87 = .ok (.aload_n 0, 1) := by decide +kernel
theorem dX9_init_88 : decode cX9_init 88 = .ok (.new 50, 3) := by decide +kernel
theorem dX9_init_91 : decode cX9_init 91 = .ok (.dup, 1) := by decide +kernel
theorem dX9_init_92 : decode cX9_init 92 = .ok (.aload_n 0, 1) := by decide +kernel
theorem dX9_init_93 : decode cX9_init 93 = .ok (.getfield 10, 3) := by decide +kernel
theorem dX9_init_96 : decode cX9_init 96 = .ok (.aload_n 0, 1) := by decide +kernel
theorem dX9_init_97 : decode cX9_init 97 = .ok (.getfield 46, 3) := by decide +kernel
theorem dX9_init_100 : decode cX9_init 100 = .ok (.invokespecial 52, 3) := by decide +kernel
theorem dX9_init_103 : decode cX9_init 103 = .ok (.putfield 55, 3) := by decide +kernel
theorem dX9_init_106 : decode cX9_init 106 = .ok (.aload_n 0, 1) := by decide +kernel
theorem dX9_init_107 : decode cX9_init 107 = .ok (.new 59, 3) := by decide +kernel
theorem dX9_init_110 : decode cX9_init 110 = .ok (.dup, 1) := by decide +kernel
theorem dX9_init_111 : decode cX9_init 111 = .ok (.invokespecial 61, 3) := by decide +kernel
theorem dX9_init_114 : decode cX9_init 114 = .ok (.putfield 62, 3) := by decide +kernel
theorem dX9_init_117 : decode cX9_init 117 = .ok (.aload_n 0, 1) := by decide +kernel
theorem dX9_init_118 : decode cX9_init 118 = .ok (.new 66, 3) := by decide +kernel
theorem dX9_init_121 : decode cX9_init 121 = .ok (.dup, 1) := by decide +kernel
theorem dX9_init_122 : decode cX9_init 122 = .ok (.invokespecial 68, 3) := by decide +kernel
theorem dX9_init_125 : decode cX9_init 125 = .ok (.putfield 69, 3) := by decide +kernel
theorem dX9_init_128 : decode cX9_init 128 = .ok (.return_, 1) := by decide +kernel
theorem dX9_path_0 : decode cX9_path 0 = .ok (.iload_n 1, 1) := by decide +kernel
theorem dX9_path_1 : decode cX9_path 1 = .ok (.invokestatic 73, 3) := by decide +kernel
theorem dX9_path_4 : decode cX9_path 4 = .ok (.ifCond .eq 10, 3) := by decide +kernel
theorem dX9_path_7 : decode cX9_path 7 = .ok (.iload_n 2, 1) := by decide +kernel
theorem dX9_path_8 : decode cX9_path 8 = .ok (.invokestatic 73, 3) := by decide +kernel
theorem dX9_path_11 : decode cX9_path 11 = .ok (.ifCond .ne 6, 3) := by decide +kernel
theorem dX9_path_14 : decode cX9_path 14 = .ok (.bipush (-2), 2) := by decide +kernel
theorem dX9_path_16 : decode cX9_path 16 = .ok (.ireturn, 1) := by decide +kernel
theorem dX9_path_17 : decode cX9_path 17 = .ok (.iload_n 1, 1) := by decide +kernel
theorem dX9_path_18 : decode cX9_path 18 = .ok (.iload_n 2, 1) := by decide +kernel
theorem dX9_path_19 : decode cX9_path 19 = .ok (.if_icmp .eq 13, 3) := by decide +kernel
theorem dX9_path_22 : decode cX9_path 22 = .ok (.iload_n 3, 1) := by decide +kernel
theorem dX9_path_23 : decode cX9_path 23 = .ok (.iconst 1, 1) := by decide +kernel
theorem dX9_path_24 : decode cX9_path 24 = .ok (.bipush 9, 2) := by decide +kernel
theorem dX9_path_26 : decode cX9_path 26 = .ok (.invokestatic 77, 3) := by decide +kernel
theorem dX9_path_29 : decode cX9_path 29 = .ok (.ifCond .ne 6, 3) := by decide +kernel
theorem dX9_path_32 : decode cX9_path 32 = .ok (.bipush (-3), 2) := by decide +kernel
theorem dX9_path_34 : decode cX9_path 34 = .ok (.ireturn, 1) := by decide +kernel
theorem dX9_path_35 : decode cX9_path 35 = .ok (.aload_n 0, 1) := by decide +kernel
theorem dX9_path_36 : decode cX9_path 36 = .ok (.getfield 10, 3) := by decide +kernel
theorem dX9_path_39 : decode cX9_path 39 = .ok (.iload_n 1, 1) := by decide +kernel
theorem dX9_path_40 : decode cX9_path 40 = .ok (.iload_n 2, 1) := by decide +kernel
theorem dX9_path_41 : decode cX9_path 41 = .ok (.invokevirtual 81, 3) := by decide +kernel
theorem dX9_path_44 : decode cX9_path 44 = .ok (.iconst (-1), 1) := by decide +kernel
theorem dX9_path_45 : decode cX9_path 45 = .ok (.if_icmp .eq 6, 3) := by decide +kernel
theorem dX9_path_48 : decode cX9_path 48 = .ok (.bipush (-4), 2) := by decide +kernel
theorem dX9_path_50 : decode cX9_path 50 = .ok (.ireturn, 1) := by decide +kernel
theorem dX9_path_51 : decode cX9_path 51 = .ok (.aload_n 0, 1) := by decide +kernel
theorem dX9_path_52 : decode cX9_path 52 = .ok (.getfield 10, 3) := by decide +kernel
theorem dX9_path_55 : decode cX9_path 55 = .ok (.invokevirtual 85, 3) := by decide +kernel
theorem dX9_path_58 : decode cX9_path 58 = .ok (.bipush 16, 2) := by decide +kernel
theorem dX9_path_60 : decode cX9_path 60 = .ok (.if_icmp .lt 8, 3) := by decide +kernel
theorem dX9_path_63 : decode cX9_path 63 = .ok (.bipush (-5), 2) := by decide +kernel
theorem dX9_path_65 : decode cX9_path 65 = .ok (.goto 13, 3) := by decide +kernel
theorem dX9_path_68 : decode cX9_path 68 = .ok (.aload_n 0, 1) := by decide +kernel
theorem dX9_path_69 : decode cX9_path 69 = .ok (.getfield 10, 3) := by decide +kernel
theorem dX9_path_72 : decode cX9_path 72 = .ok (.iload_n 1, 1) := by decide +kernel
theorem dX9_path_73 : decode cX9_path 73 = .ok (.iload_n 2, 1) := by decide +kernel
theorem dX9_path_74 : decode cX9_path 74 = .ok (.iload_n 3, 1) := by decide +kernel
theorem dX9_path_75 : decode cX9_path 75 = .ok (.invokevirtual 89, 3) := by decide +kernel
theorem dX9_path_78 : decode cX9_path 78 = .ok (.ireturn, 1) := by decide +kernel
theorem dX9_weather_0 : decode cX9_weather 0 = .ok (.iload_n 1, 1) := by decide +kernel
theorem dX9_weather_1 : decode cX9_weather 1 = .ok (.iconst 0, 1) := by decide +kernel
theorem dX9_weather_2 : decode cX9_weather 2 = .ok (.iconst 2, 1) := by decide +kernel
theorem dX9_weather_3 : decode cX9_weather 3 = .ok (.invokestatic 77, 3) := by decide +kernel
theorem dX9_weather_6 : decode cX9_weather 6 = .ok (.ifCond .eq 14, 3) := by decide +kernel
theorem dX9_weather_9 : decode cX9_weather 9 = .ok (.aload_n 0, 1) := by decide +kernel
theorem dX9_weather_10 : decode cX9_weather 10 = .ok (.getfield 21, 3) := by decide +kernel
theorem dX9_weather_13 : decode cX9_weather 13 = .ok (.iload_n 1, 1) := by decide +kernel
theorem dX9_weather_14 : decode cX9_weather 14 = .ok (.invokevirtual 93, 3) := by decide +kernel
theorem dX9_weather_17 : decode cX9_weather 17 = .ok (.goto 5, 3) := by decide +kernel
theorem dX9_weather_20 : decode cX9_weather 20 = .ok (.bipush (-3), 2) := by decide +kernel
theorem dX9_weather_22 : decode cX9_weather 22 = .ok (.ireturn, 1) := by decide +kernel
theorem dX9_days_0 : decode cX9_days 0 = .ok (.iload_n 1, 1) := by decide +kernel
theorem dX9_days_1 : decode cX9_days 1 = .ok (.iconst 1, 1) := by decide +kernel
theorem dX9_days_2 : decode cX9_days 2 = .ok (.bipush 30, 2) := by decide +kernel
theorem dX9_days_4 : decode cX9_days 4 = .ok (.invokestatic 77, 3) := by decide +kernel
theorem dX9_days_7 : decode cX9_days 7 = .ok (.ifCond .eq 18, 3) := by decide +kernel
theorem dX9_days_10 : decode cX9_days 10 = .ok (.aload_n 0, 1) := by decide +kernel
theorem dX9_days_11 : decode cX9_days 11 = .ok (.getfield 21, 3) := by decide +kernel
theorem dX9_days_14 : decode cX9_days 14 = .ok (.invokevirtual 97, 3) := by decide +kernel
theorem dX9_days_17 : decode cX9_days 17 = .ok (.iload_n 1, 1) := by decide +kernel
theorem dX9_days_18 : decode cX9_days 18 = .ok (.iadd, 1) := by decide +kernel
theorem dX9_days_19 : decode cX9_days 19 = .ok (.sipush 400, 3) := by decide +kernel
theorem dX9_days_22 : decode cX9_days 22 = .ok (.if_icmp .le 6, 3) := by decide +kernel
theorem dX9_days_25 : decode cX9_days 25 = .ok (.bipush (-3), 2) := by decide +kernel
theorem dX9_days_27 : decode cX9_days 27 = .ok (.ireturn, 1) := by decide +kernel
theorem dX9_days_28 : decode cX9_days 28 = .ok (.aload_n 0, 1) := by decide +kernel
theorem dX9_days_29 : decode cX9_days 29 = .ok (.getfield 21, 3) := by decide +kernel
theorem dX9_days_32 : decode cX9_days 32 = .ok (.iload_n 1, 1) := by decide +kernel
theorem dX9_days_33 : decode cX9_days 33 = .ok (.invokevirtual 100, 3) := by decide +kernel
theorem dX9_days_36 : decode cX9_days 36 = .ok (.ireturn, 1) := by decide +kernel
theorem dX9_sign_0 : decode cX9_sign 0 = .ok (.iload_n 1, 1) := by decide +kernel
theorem dX9_sign_1 : decode cX9_sign 1 = .ok (.invokestatic 73, 3) := by decide +kernel
theorem dX9_sign_4 : decode cX9_sign 4 = .ok (.ifCond .eq 22, 3) := by decide +kernel
theorem dX9_sign_7 : decode cX9_sign 7 = .ok (.iload_n 2, 1) := by decide +kernel
theorem dX9_sign_8 : decode cX9_sign 8 = .ok (.invokestatic 103, 3) := by decide +kernel
theorem dX9_sign_11 : decode cX9_sign 11 = .ok (.ifCond .eq 18, 3) := by decide +kernel
theorem dX9_sign_14 : decode cX9_sign 14 = .ok (.aload_n 0, 1) := by decide +kernel
theorem dX9_sign_15 : decode cX9_sign 15 = .ok (.getfield 10, 3) := by decide +kernel
theorem dX9_sign_18 : decode cX9_sign 18 = .ok (.iload_n 3, 1) := by decide +kernel
theorem dX9_sign_19 : decode cX9_sign 19 = .ok (.iload_n 1, 1) := by decide +kernel
theorem dX9_sign_20 : decode cX9_sign 20 = .ok (.invokevirtual 106, 3) := by decide +kernel
theorem dX9_sign_23 : decode cX9_sign 23 = .ok (.ifCond .ne 6, 3) := by decide +kernel
theorem dX9_sign_26 : decode cX9_sign 26 = .ok (.bipush (-2), 2) := by decide +kernel
theorem dX9_sign_28 : decode cX9_sign 28 = .ok (.ireturn, 1) := by decide +kernel
theorem dX9_sign_29 : decode cX9_sign 29 = .ok (.iload_n 2, 1) := by decide +kernel
theorem dX9_sign_30 : decode cX9_sign 30 = .ok (.iload_n 3, 1) := by decide +kernel
theorem dX9_sign_31 : decode cX9_sign 31 = .ok (.invokestatic 110, 3) := by decide +kernel
theorem dX9_sign_34 : decode cX9_sign 34 = .ok (.ifCond .eq 30, 3) := by decide +kernel
theorem dX9_sign_37 : decode cX9_sign 37 = .ok (.iload 4, 2) := by decide +kernel
theorem dX9_sign_39 : decode cX9_sign 39 = .ok (.iconst 1, 1) := by decide +kernel
theorem dX9_sign_40 : decode cX9_sign 40 = .ok (.bipush 60, 2) := by decide +kernel
theorem dX9_sign_42 : decode cX9_sign 42 = .ok (.invokestatic 77, 3) := by decide +kernel
theorem dX9_sign_45 : decode cX9_sign 45 = .ok (.ifCond .eq 19, 3) := by decide +kernel
theorem dX9_sign_48 : decode cX9_sign 48 = .ok (.iload 5, 2) := by decide +kernel
theorem dX9_sign_50 : decode cX9_sign 50 = .ok (.aload_n 0, 1) := by decide +kernel
theorem dX9_sign_51 : decode cX9_sign 51 = .ok (.getfield 10, 3) := by decide +kernel
theorem dX9_sign_54 : decode cX9_sign 54 = .ok (.iload_n 1, 1) := by decide +kernel
theorem dX9_sign_55 : decode cX9_sign 55 = .ok (.invokevirtual 113, 3) := by decide +kernel
theorem dX9_sign_58 : decode cX9_sign 58 = .ok (.iconst (-1), 1) := by decide +kernel
theorem dX9_sign_59 : decode cX9_sign 59 = .ok (.ixor, 1) := by decide +kernel
theorem dX9_sign_60 : decode cX9_sign 60 = .ok (.iand, 1) := by decide +kernel
theorem dX9_sign_61 : decode cX9_sign 61 = .ok (.ifCond .eq 6, 3) := by decide +kernel
theorem dX9_sign_64 : decode cX9_sign 64 = .ok (.bipush (-3), 2) := by decide +kernel
theorem dX9_sign_66 : decode cX9_sign 66 = .ok (.ireturn, 1) := by decide +kernel
theorem dX9_sign_67 : decode cX9_sign 67 = .ok (.aload_n 0, 1) := by decide +kernel
theorem dX9_sign_68 : decode cX9_sign 68 = .ok (.getfield 21, 3) := by decide +kernel
theorem dX9_sign_71 : decode cX9_sign 71 = .ok (.invokevirtual 116, 3) := by decide +kernel
theorem dX9_sign_74 : decode cX9_sign 74 = .ok (.bipush 24, 2) := by decide +kernel
theorem dX9_sign_76 : decode cX9_sign 76 = .ok (.if_icmp .lt 8, 3) := by decide +kernel
theorem dX9_sign_79 : decode cX9_sign 79 = .ok (.bipush (-5), 2) := by decide +kernel
theorem dX9_sign_81 : decode cX9_sign 81 = .ok (.goto 19, 3) := by decide +kernel
theorem dX9_sign_84 : decode cX9_sign 84 = .ok (.aload_n 0, 1) := by decide +kernel
theorem dX9_sign_85 : decode cX9_sign 85 = .ok (.getfield 21, 3) := by decide +kernel
theorem dX9_sign_88 : decode cX9_sign 88 = .ok (.iload_n 1, 1) := by decide +kernel
theorem dX9_sign_89 : decode cX9_sign 89 = .ok (.iload_n 2, 1) := by decide +kernel
theorem dX9_sign_90 : decode cX9_sign 90 = .ok (.iload_n 3, 1) := by decide +kernel
theorem dX9_sign_91 : decode cX9_sign 91 = .ok (.iload 4, 2) := by decide +kernel
theorem dX9_sign_93 : decode cX9_sign 93 = .ok (.iload 5, 2) := by decide +kernel
theorem dX9_sign_95 : decode cX9_sign 95 = .ok (.iload 6, 2) := by decide +kernel
theorem dX9_sign_97 : decode cX9_sign 97 = .ok (.invokevirtual 119, 3) := by decide +kernel
theorem dX9_sign_100 : decode cX9_sign 100 = .ok (.ireturn, 1) := by decide +kernel
theorem dX9_turn_0 : decode cX9_turn 0 = .ok (.iload_n 1, 1) := by decide +kernel
theorem dX9_turn_1 : decode cX9_turn 1 = .ok (.iconst 0, 1) := by decide +kernel
theorem dX9_turn_2 : decode cX9_turn 2 = .ok (.aload_n 0, 1) := by decide +kernel
theorem dX9_turn_3 : decode cX9_turn 3 = .ok (.getfield 21, 3) := by decide +kernel
theorem dX9_turn_6 : decode cX9_turn 6 = .ok (.invokevirtual 116, 3) := by decide +kernel
theorem dX9_turn_9 : decode cX9_turn 9 = .ok (.iconst 1, 1) := by decide +kernel
theorem dX9_turn_10 : decode cX9_turn 10 = .ok (.isub, 1) := by decide +kernel
theorem dX9_turn_11 : decode cX9_turn 11 = .ok (.invokestatic 77, 3) := by decide +kernel
theorem dX9_turn_14 : decode cX9_turn 14 = .ok (.ifCond .eq 22, 3) := by decide +kernel
theorem dX9_turn_17 : decode cX9_turn 17 = .ok (.aload_n 0, 1) := by decide +kernel
theorem dX9_turn_18 : decode cX9_turn 18 = .ok (.getfield 10, 3) := by decide +kernel
theorem dX9_turn_21 : decode cX9_turn 21 = .ok (.iload_n 2, 1) := by decide +kernel
theorem dX9_turn_22 : decode cX9_turn 22 = .ok (.aload_n 0, 1) := by decide +kernel
theorem dX9_turn_23 : decode cX9_turn 23 = .ok (.getfield 21, 3) := by decide +kernel
theorem dX9_turn_26 : decode cX9_turn 26 = .ok (.iload_n 1, 1) := by decide +kernel
theorem dX9_turn_27 : decode cX9_turn 27 = .ok (.invokevirtual 123, 3) := by decide +kernel
theorem dX9_turn_30 : decode cX9_turn 30 = .ok (.invokevirtual 106, 3) := by decide +kernel
theorem dX9_turn_33 : decode cX9_turn 33 = .ok (.ifCond .ne 6, 3) := by decide +kernel
theorem dX9_turn_36 : decode cX9_turn 36 = .ok (.bipush (-2), 2) := by decide +kernel
theorem dX9_turn_38 : decode cX9_turn 38 = .ok (.ireturn, 1) := by decide +kernel
theorem dX9_turn_39 : decode cX9_turn 39 = .ok (.aload_n 0, 1) := by decide +kernel
theorem dX9_turn_40 : decode cX9_turn 40 = .ok (.getfield 21, 3) := by decide +kernel
theorem dX9_turn_43 : decode cX9_turn 43 = .ok (.iload_n 1, 1) := by decide +kernel
theorem dX9_turn_44 : decode cX9_turn 44 = .ok (.invokevirtual 126, 3) := by decide +kernel
theorem dX9_turn_47 : decode cX9_turn 47 = .ok (.ifCond .ne 26, 3) := by decide +kernel
theorem dX9_turn_50 : decode cX9_turn 50 = .ok (.aload_n 0, 1) := by decide +kernel
theorem dX9_turn_51 : decode cX9_turn 51 = .ok (.getfield 21, 3) := by decide +kernel
theorem dX9_turn_54 : decode cX9_turn 54 = .ok (.iload_n 1, 1) := by decide +kernel
theorem dX9_turn_55 : decode cX9_turn 55 = .ok (.invokevirtual 129, 3) := by decide +kernel
theorem dX9_turn_58 : decode cX9_turn 58 = .ok (.ifCond .ne 15, 3) := by decide +kernel
theorem dX9_turn_61 : decode cX9_turn 61 = .ok (.aload_n 0, 1) := by decide +kernel
theorem dX9_turn_62 : decode cX9_turn 62 = .ok (.getfield 21, 3) := by decide +kernel
theorem dX9_turn_65 : decode cX9_turn 65 = .ok (.iload_n 1, 1) := by decide +kernel
theorem dX9_turn_66 : decode cX9_turn 66 = .ok (.invokevirtual 132, 3) := by decide +kernel
theorem dX9_turn_69 : decode cX9_turn 69 = .ok (.iload_n 2, 1) := by decide +kernel
theorem dX9_turn_70 : decode cX9_turn 70 = .ok (.if_icmp .ne 6, 3) := by decide +kernel
theorem dX9_turn_73 : decode cX9_turn 73 = .ok (.bipush (-4), 2) := by decide +kernel
theorem dX9_turn_75 : decode cX9_turn 75 = .ok (.ireturn, 1) := by decide +kernel
theorem dX9_turn_76 : decode cX9_turn 76 = .ok (.aload_n 0, 1) := by decide +kernel
theorem dX9_turn_77 : decode cX9_turn 77 = .ok (.getfield 21, 3) := by decide +kernel
theorem dX9_turn_80 : decode cX9_turn 80 = .ok (.iload_n 1, 1) := by decide +kernel
theorem dX9_turn_81 : decode cX9_turn 81 = .ok (.iload_n 2, 1) := by decide +kernel
theorem dX9_turn_82 : decode cX9_turn 82 = .ok (.invokevirtual 135, 3) := by decide +kernel
theorem dX9_turn_85 : decode cX9_turn 85 = .ok (.ireturn, 1) := by decide +kernel
theorem dX9_at_0 : decode cX9_at 0 = .ok (.iload_n 1, 1) := by decide +kernel
theorem dX9_at_1 : decode cX9_at 1 = .ok (.iconst 0, 1) := by decide +kernel
theorem dX9_at_2 : decode cX9_at 2 = .ok (.aload_n 0, 1) := by decide +kernel
theorem dX9_at_3 : decode cX9_at 3 = .ok (.getfield 21, 3) := by decide +kernel
theorem dX9_at_6 : decode cX9_at 6 = .ok (.invokevirtual 116, 3) := by decide +kernel
theorem dX9_at_9 : decode cX9_at 9 = .ok (.iconst 1, 1) := by decide +kernel
theorem dX9_at_10 : decode cX9_at 10 = .ok (.isub, 1) := by decide +kernel
theorem dX9_at_11 : decode cX9_at 11 = .ok (.invokestatic 77, 3) := by decide +kernel
theorem dX9_at_14 : decode cX9_at 14 = .ok (.ifCond .ne 6, 3) := by decide +kernel
theorem dX9_at_17 : decode cX9_at 17 = .ok (.bipush (-2), 2) := by decide +kernel
theorem dX9_at_19 : decode cX9_at 19 = .ok (.ireturn, 1) := by decide +kernel
theorem dX9_at_20 : decode cX9_at 20 = .ok (.iload_n 2, 1) := by decide +kernel
theorem dX9_at_21 : decode cX9_at 21 = .ok (.iconst 0, 1) := by decide +kernel
theorem dX9_at_22 : decode cX9_at 22 = .ok (.iconst 5, 1) := by decide +kernel
theorem dX9_at_23 : decode cX9_at 23 = .ok (.invokestatic 77, 3) := by decide +kernel
theorem dX9_at_26 : decode cX9_at 26 = .ok (.ifCond .eq 15, 3) := by decide +kernel
theorem dX9_at_29 : decode cX9_at 29 = .ok (.aload_n 0, 1) := by decide +kernel
theorem dX9_at_30 : decode cX9_at 30 = .ok (.getfield 21, 3) := by decide +kernel
theorem dX9_at_33 : decode cX9_at 33 = .ok (.iload_n 1, 1) := by decide +kernel
theorem dX9_at_34 : decode cX9_at 34 = .ok (.iload_n 2, 1) := by decide +kernel
theorem dX9_at_35 : decode cX9_at 35 = .ok (.invokevirtual 138, 3) := by decide +kernel
theorem dX9_at_38 : decode cX9_at 38 = .ok (.goto 5, 3) := by decide +kernel
theorem dX9_at_41 : decode cX9_at 41 = .ok (.bipush (-3), 2) := by decide +kernel
theorem dX9_at_43 : decode cX9_at 43 = .ok (.ireturn, 1) := by decide +kernel
theorem dX9_set_0 : decode cX9_set 0 = .ok (.iload_n 1, 1) := by decide +kernel
theorem dX9_set_1 : decode cX9_set 1 = .ok (.ifCond .ne 22, 3) := by decide +kernel
theorem dX9_set_4 : decode cX9_set 4 = .ok (.iload_n 2, 1) := by decide +kernel
theorem dX9_set_5 : decode cX9_set 5 = .ok (.iconst 0, 1) := by decide +kernel
theorem dX9_set_6 : decode cX9_set 6 = .ok (.bipush 9, 2) := by decide +kernel
theorem dX9_set_8 : decode cX9_set 8 = .ok (.invokestatic 77, 3) := by decide +kernel
theorem dX9_set_11 : decode cX9_set 11 = .ok (.ifCond .eq 12, 3) := by decide +kernel
theorem dX9_set_14 : decode cX9_set 14 = .ok (.aload_n 0, 1) := by decide +kernel
theorem dX9_set_15 : decode cX9_set 15 = .ok (.getfield 21, 3) := by decide +kernel
theorem dX9_set_18 : decode cX9_set 18 = .ok (.iload_n 2, 1) := by decide +kernel
theorem dX9_set_19 : decode cX9_set 19 = .ok (.invokevirtual 141, 3) := by decide +kernel
theorem dX9_set_22 : decode cX9_set 22 = .ok (.ireturn, 1) := by decide +kernel
theorem dX9_set_23 : decode cX9_set 23 = .ok (.iload_n 1, 1) := by decide +kernel
theorem dX9_set_24 : decode cX9_set 24 = .ok (.iconst 1, 1) := by decide +kernel
theorem dX9_set_25 : decode cX9_set 25 = .ok (.if_icmp .ne 22, 3) := by decide +kernel
theorem dX9_set_28 : decode cX9_set 28 = .ok (.iload_n 2, 1) := by decide +kernel
theorem dX9_set_29 : decode cX9_set 29 = .ok (.iconst 0, 1) := by decide +kernel
theorem dX9_set_30 : decode cX9_set 30 = .ok (.bipush 9, 2) := by decide +kernel
theorem dX9_set_32 : decode cX9_set 32 = .ok (.invokestatic 77, 3) := by decide +kernel
theorem dX9_set_35 : decode cX9_set 35 = .ok (.ifCond .eq 12, 3) := by decide +kernel
theorem dX9_set_38 : decode cX9_set 38 = .ok (.aload_n 0, 1) := by decide +kernel
theorem dX9_set_39 : decode cX9_set 39 = .ok (.getfield 46, 3) := by decide +kernel
theorem dX9_set_42 : decode cX9_set 42 = .ok (.iload_n 2, 1) := by decide +kernel
theorem dX9_set_43 : decode cX9_set 43 = .ok (.invokevirtual 144, 3) := by decide +kernel
theorem dX9_set_46 : decode cX9_set 46 = .ok (.ireturn, 1) := by decide +kernel
theorem dX9_set_47 : decode cX9_set 47 = .ok (.iload_n 1, 1) := by decide +kernel
theorem dX9_set_48 : decode cX9_set 48 = .ok (.iconst 2, 1) := by decide +kernel
theorem dX9_set_49 : decode cX9_set 49 = .ok (.if_icmp .ne 22, 3) := by decide +kernel
theorem dX9_set_52 : decode cX9_set 52 = .ok (.iload_n 2, 1) := by decide +kernel
theorem dX9_set_53 : decode cX9_set 53 = .ok (.iconst 1, 1) := by decide +kernel
theorem dX9_set_54 : decode cX9_set 54 = .ok (.bipush 40, 2) := by decide +kernel
theorem dX9_set_56 : decode cX9_set 56 = .ok (.invokestatic 77, 3) := by decide +kernel
theorem dX9_set_59 : decode cX9_set 59 = .ok (.ifCond .eq 12, 3) := by decide +kernel
theorem dX9_set_62 : decode cX9_set 62 = .ok (.aload_n 0, 1) := by decide +kernel
theorem dX9_set_63 : decode cX9_set 63 = .ok (.getfield 55, 3) := by decide +kernel
theorem dX9_set_66 : decode cX9_set 66 = .ok (.iload_n 2, 1) := by decide +kernel
theorem dX9_set_67 : decode cX9_set 67 = .ok (.invokevirtual 147, 3) := by decide +kernel
theorem dX9_set_70 : decode cX9_set 70 = .ok (.ireturn, 1) := by decide +kernel
theorem dX9_set_71 : decode cX9_set 71 = .ok (.bipush (-3), 2) := by decide +kernel
theorem dX9_set_73 : decode cX9_set 73 = .ok (.ireturn, 1) := by decide +kernel
theorem dX9_seen_0 : decode cX9_seen 0 = .ok (.iload_n 1, 1) := by decide +kernel
theorem dX9_seen_1 : decode cX9_seen 1 = .ok (.invokestatic 73, 3) := by decide +kernel
theorem dX9_seen_4 : decode cX9_seen 4 = .ok (.ifCond .eq 20, 3) := by decide +kernel
theorem dX9_seen_7 : decode cX9_seen 7 = .ok (.iload_n 2, 1) := by decide +kernel
theorem dX9_seen_8 : decode cX9_seen 8 = .ok (.iconst (-1), 1) := by decide +kernel
theorem dX9_seen_9 : decode cX9_seen 9 = .ok (.if_icmp .eq 18, 3) := by decide +kernel
theorem dX9_seen_12 : decode cX9_seen 12 = .ok (.aload_n 0, 1) := by decide +kernel
theorem dX9_seen_13 : decode cX9_seen 13 = .ok (.getfield 10, 3) := by decide +kernel
theorem dX9_seen_16 : decode cX9_seen 16 = .ok (.iload_n 2, 1) := by decide +kernel
theorem dX9_seen_17 : decode cX9_seen 17 = .ok (.iload_n 1, 1) := by decide +kernel
theorem dX9_seen_18 : decode cX9_seen 18 = .ok (.invokevirtual 106, 3) := by decide +kernel
theorem dX9_seen_21 : decode cX9_seen 21 = .ok (.ifCond .ne 6, 3) := by decide +kernel
theorem dX9_seen_24 : decode cX9_seen 24 = .ok (.bipush (-2), 2) := by decide +kernel
theorem dX9_seen_26 : decode cX9_seen 26 = .ok (.ireturn, 1) := by decide +kernel
theorem dX9_seen_27 : decode cX9_seen 27 = .ok (.aload_n 0, 1) := by decide +kernel
theorem dX9_seen_28 : decode cX9_seen 28 = .ok (.getfield 21, 3) := by decide +kernel
theorem dX9_seen_31 : decode cX9_seen 31 = .ok (.iload_n 1, 1) := by decide +kernel
theorem dX9_seen_32 : decode cX9_seen 32 = .ok (.iload_n 2, 1) := by decide +kernel
theorem dX9_seen_33 : decode cX9_seen 33 = .ok (.invokevirtual 150, 3) := by decide +kernel
theorem dX9_seen_36 : decode cX9_seen 36 = .ok (.ireturn, 1) := by decide +kernel
theorem dX9_walk_0 : decode cX9_walk 0 = .ok (.iload_n 1, 1) := by decide +kernel
theorem dX9_walk_1 : decode cX9_walk 1 = .ok (.invokestatic 73, 3) := by decide +kernel
theorem dX9_walk_4 : decode cX9_walk 4 = .ok (.ifCond .ne 6, 3) := by decide +kernel
theorem dX9_walk_7 : decode cX9_walk 7 = .ok (.bipush (-2), 2) := by decide +kernel
theorem dX9_walk_9 : decode cX9_walk 9 = .ok (.ireturn, 1) := by decide +kernel
theorem dX9_walk_10 : decode cX9_walk 10 = .ok (.iload_n 2, 1) := by decide +kernel
theorem dX9_walk_11 : decode cX9_walk 11 = .ok (.iconst 0, 1) := by decide +kernel
theorem dX9_walk_12 : decode cX9_walk 12 = .ok (.iconst 3, 1) := by decide +kernel
theorem dX9_walk_13 : decode cX9_walk 13 = .ok (.invokestatic 77, 3) := by decide +kernel
theorem dX9_walk_16 : decode cX9_walk 16 = .ok (.ifCond .ne 6, 3) := by decide +kernel
theorem dX9_walk_19 : decode cX9_walk 19 = .ok (.bipush (-3), 2) := by decide +kernel
theorem dX9_walk_21 : decode cX9_walk 21 = .ok (.ireturn, 1) := by decide +kernel
theorem dX9_walk_22 : decode cX9_walk 22 = .ok (.aload_n 0, 1) := by decide +kernel
theorem dX9_walk_23 : decode cX9_walk 23 = .ok (.getfield 30, 3) := by decide +kernel
theorem dX9_walk_26 : decode cX9_walk 26 = .ok (.iload_n 1, 1) := by decide +kernel
theorem dX9_walk_27 : decode cX9_walk 27 = .ok (.invokevirtual 153, 3) := by decide +kernel
theorem dX9_walk_30 : decode cX9_walk 30 = .ok (.aload_n 0, 1) := by decide +kernel
theorem dX9_walk_31 : decode cX9_walk 31 = .ok (.getfield 30, 3) := by decide +kernel
theorem dX9_walk_34 : decode cX9_walk 34 = .ok (.iload_n 2, 1) := by decide +kernel
theorem dX9_walk_35 : decode cX9_walk 35 = .ok (.invokevirtual 157, 3) := by decide +kernel
theorem dX9_walk_38 : decode cX9_walk 38 = .ok (.ireturn, 1) := by decide +kernel
theorem dX9_walked_0 : decode cX9_walked 0 = .ok (.iload_n 1, 1) := by decide +kernel
theorem dX9_walked_1 : decode cX9_walked 1 = .ok (.invokestatic 73, 3) := by decide +kernel
theorem dX9_walked_4 : decode cX9_walked 4 = .ok (.ifCond .ne 6, 3) := by decide +kernel
theorem dX9_walked_7 : decode cX9_walked 7 = .ok (.bipush (-2), 2) := by decide +kernel
theorem dX9_walked_9 : decode cX9_walked 9 = .ok (.ireturn, 1) := by decide +kernel
theorem dX9_walked_10 : decode cX9_walked 10 = .ok (.iload_n 2, 1) := by decide +kernel
theorem dX9_walked_11 : decode cX9_walked 11 = .ok (.ifCond .ge 6, 3) := by decide +kernel
theorem dX9_walked_14 : decode cX9_walked 14 = .ok (.bipush (-3), 2) := by decide +kernel
theorem dX9_walked_16 : decode cX9_walked 16 = .ok (.ireturn, 1) := by decide +kernel
theorem dX9_walked_17 : decode cX9_walked 17 = .ok (.aload_n 0, 1) := by decide +kernel
theorem dX9_walked_18 : decode cX9_walked 18 = .ok (.getfield 30, 3) := by decide +kernel
theorem dX9_walked_21 : decode cX9_walked 21 = .ok (.iload_n 1, 1) := by decide +kernel
theorem dX9_walked_22 : decode cX9_walked 22 = .ok (.invokevirtual 153, 3) := by decide +kernel
theorem dX9_walked_25 : decode cX9_walked 25 = .ok (.aload_n 0, 1) := by decide +kernel
theorem dX9_walked_26 : decode cX9_walked 26 = .ok (.getfield 30, 3) := by decide +kernel
theorem dX9_walked_29 : decode cX9_walked 29 = .ok (.iload_n 2, 1) := by decide +kernel
theorem dX9_walked_30 : decode cX9_walked 30 = .ok (.invokevirtual 159, 3) := by decide +kernel
theorem dX9_walked_33 : decode cX9_walked 33 = .ok (.ireturn, 1) := by decide +kernel
theorem dX9_note_0 : decode cX9_note 0 = .ok (.iload_n 1, 1) := by decide +kernel
theorem dX9_note_1 : decode cX9_note 1 = .ok (.iconst (-1), 1) := by decide +kernel
theorem dX9_note_2 : decode cX9_note 2 = .ok (.bipush 15, 2) := by decide +kernel
theorem dX9_note_4 : decode cX9_note 4 = .ok (.invokestatic 77, 3) := by decide +kernel
theorem dX9_note_7 : decode cX9_note 7 = .ok (.ifCond .ne 6, 3) := by decide +kernel
theorem dX9_note_10 : decode cX9_note 10 = .ok (.bipush (-3), 2) := by decide +kernel
theorem dX9_note_12 : decode cX9_note 12 = .ok (.ireturn, 1) := by decide +kernel
theorem dX9_note_13 : decode cX9_note 13 = .ok (.aload_n 0, 1) := by decide +kernel
theorem dX9_note_14 : decode cX9_note 14 = .ok (.getfield 37, 3) := by decide +kernel
theorem dX9_note_17 : decode cX9_note 17 = .ok (.invokevirtual 162, 3) := by decide +kernel
theorem dX9_note_20 : decode cX9_note 20 = .ok (.bipush 8, 2) := by decide +kernel
theorem dX9_note_22 : decode cX9_note 22 = .ok (.if_icmp .lt 8, 3) := by decide +kernel
theorem dX9_note_25 : decode cX9_note 25 = .ok (.bipush (-5), 2) := by decide +kernel
theorem dX9_note_27 : decode cX9_note 27 = .ok (.goto 11, 3) := by decide +kernel
theorem dX9_note_30 : decode cX9_note 30 = .ok (.aload_n 0, 1) := by decide +kernel
theorem dX9_note_31 : decode cX9_note 31 = .ok (.getfield 37, 3) := by decide +kernel
theorem dX9_note_34 : decode cX9_note 34 = .ok (.iload_n 1, 1) := by decide +kernel
theorem dX9_note_35 : decode cX9_note 35 = .ok (.invokevirtual 165, 3) := by decide +kernel
theorem dX9_note_38 : decode cX9_note 38 = .ok (.ireturn, 1) := by decide +kernel
theorem dX9_forget_0 : decode cX9_forget 0 = .ok (.aload_n 0, 1) := by decide +kernel
theorem dX9_forget_1 : decode cX9_forget 1 = .ok (.getfield 37, 3) := by decide +kernel
theorem dX9_forget_4 : decode cX9_forget 4 = .ok (.invokevirtual 168, 3) := by decide +kernel
theorem dX9_forget_7 : decode cX9_forget 7 = .ok (.ireturn, 1) := by decide +kernel
theorem dX9_ways_0 : decode cX9_ways 0 = .ok (.iload_n 1, 1) := by decide +kernel
theorem dX9_ways_1 : decode cX9_ways 1 = .ok (.invokestatic 73, 3) := by decide +kernel
theorem dX9_ways_4 : decode cX9_ways 4 = .ok (.ifCond .eq 14, 3) := by decide +kernel
theorem dX9_ways_7 : decode cX9_ways 7 = .ok (.aload_n 0, 1) := by decide +kernel
theorem dX9_ways_8 : decode cX9_ways 8 = .ok (.getfield 37, 3) := by decide +kernel
theorem dX9_ways_11 : decode cX9_ways 11 = .ok (.iload_n 1, 1) := by decide +kernel
theorem dX9_ways_12 : decode cX9_ways 12 = .ok (.invokevirtual 171, 3) := by decide +kernel
theorem dX9_ways_15 : decode cX9_ways 15 = .ok (.goto 5, 3) := by decide +kernel
theorem dX9_ways_18 : decode cX9_ways 18 = .ok (.bipush (-2), 2) := by decide +kernel
theorem dX9_ways_20 : decode cX9_ways 20 = .ok (.ireturn, 1) := by decide +kernel
theorem dX9_only_0 : decode cX9_only 0 = .ok (.iload_n 1, 1) := by decide +kernel
theorem dX9_only_1 : decode cX9_only 1 = .ok (.invokestatic 73, 3) := by decide +kernel
theorem dX9_only_4 : decode cX9_only 4 = .ok (.ifCond .ne 6, 3) := by decide +kernel
theorem dX9_only_7 : decode cX9_only 7 = .ok (.bipush (-2), 2) := by decide +kernel
theorem dX9_only_9 : decode cX9_only 9 = .ok (.ireturn, 1) := by decide +kernel
theorem dX9_only_10 : decode cX9_only 10 = .ok (.iload_n 2, 1) := by decide +kernel
theorem dX9_only_11 : decode cX9_only 11 = .ok (.ifCond .ge 6, 3) := by decide +kernel
theorem dX9_only_14 : decode cX9_only 14 = .ok (.bipush (-3), 2) := by decide +kernel
theorem dX9_only_16 : decode cX9_only 16 = .ok (.ireturn, 1) := by decide +kernel
theorem dX9_only_17 : decode cX9_only 17 = .ok (.aload_n 0, 1) := by decide +kernel
theorem dX9_only_18 : decode cX9_only 18 = .ok (.getfield 37, 3) := by decide +kernel
theorem dX9_only_21 : decode cX9_only 21 = .ok (.iload_n 1, 1) := by decide +kernel
theorem dX9_only_22 : decode cX9_only 22 = .ok (.invokevirtual 171, 3) := by decide +kernel
theorem dX9_only_25 : decode cX9_only 25 = .ok (.iconst 1, 1) := by decide +kernel
theorem dX9_only_26 : decode cX9_only 26 = .ok (.if_icmp .ne 15, 3) := by decide +kernel
theorem dX9_only_29 : decode cX9_only 29 = .ok (.aload_n 0, 1) := by decide +kernel
theorem dX9_only_30 : decode cX9_only 30 = .ok (.getfield 37, 3) := by decide +kernel
theorem dX9_only_33 : decode cX9_only 33 = .ok (.iload_n 1, 1) := by decide +kernel
theorem dX9_only_34 : decode cX9_only 34 = .ok (.iload_n 2, 1) := by decide +kernel
theorem dX9_only_35 : decode cX9_only 35 = .ok (.invokevirtual 174, 3) := by decide +kernel
theorem dX9_only_38 : decode cX9_only 38 = .ok (.goto 4, 3) := by decide +kernel
theorem dX9_only_41 : decode cX9_only 41 = .ok (.iconst (-1), 1) := by decide +kernel
theorem dX9_only_42 : decode cX9_only 42 = .ok (.ireturn, 1) := by decide +kernel
theorem dX9_route_0 : decode cX9_route 0 = .ok (.iload_n 1, 1) := by decide +kernel
theorem dX9_route_1 : decode cX9_route 1 = .ok (.invokestatic 73, 3) := by decide +kernel
theorem dX9_route_4 : decode cX9_route 4 = .ok (.ifCond .ne 6, 3) := by decide +kernel
theorem dX9_route_7 : decode cX9_route 7 = .ok (.bipush (-2), 2) := by decide +kernel
theorem dX9_route_9 : decode cX9_route 9 = .ok (.ireturn, 1) := by decide +kernel
theorem dX9_route_10 : decode cX9_route 10 = .ok (.aload_n 0, 1) := by decide +kernel
theorem dX9_route_11 : decode cX9_route 11 = .ok (.getfield 46, 3) := by decide +kernel
theorem dX9_route_14 : decode cX9_route 14 = .ok (.iload_n 1, 1) := by decide +kernel
theorem dX9_route_15 : decode cX9_route 15 = .ok (.invokevirtual 177, 3) := by decide +kernel
theorem dX9_route_18 : decode cX9_route 18 = .ok (.ifCond .ne 6, 3) := by decide +kernel
theorem dX9_route_21 : decode cX9_route 21 = .ok (.bipush (-4), 2) := by decide +kernel
theorem dX9_route_23 : decode cX9_route 23 = .ok (.ireturn, 1) := by decide +kernel
theorem dX9_route_24 : decode cX9_route 24 = .ok (.aload_n 0, 1) := by decide +kernel
theorem dX9_route_25 : decode cX9_route 25 = .ok (.getfield 46, 3) := by decide +kernel
theorem dX9_route_28 : decode cX9_route 28 = .ok (.invokevirtual 180, 3) := by decide +kernel
theorem dX9_route_31 : decode cX9_route 31 = .ok (.bipush 10, 2) := by decide +kernel
theorem dX9_route_33 : decode cX9_route 33 = .ok (.if_icmp .lt 8, 3) := by decide +kernel
theorem dX9_route_36 : decode cX9_route 36 = .ok (.bipush (-5), 2) := by decide +kernel
theorem dX9_route_38 : decode cX9_route 38 = .ok (.goto 11, 3) := by decide +kernel
theorem dX9_route_41 : decode cX9_route 41 = .ok (.aload_n 0, 1) := by decide +kernel
theorem dX9_route_42 : decode cX9_route 42 = .ok (.getfield 46, 3) := by decide +kernel
theorem dX9_route_45 : decode cX9_route 45 = .ok (.iload_n 1, 1) := by decide +kernel
theorem dX9_route_46 : decode cX9_route 46 = .ok (.invokevirtual 183, 3) := by decide +kernel
theorem dX9_route_49 : decode cX9_route 49 = .ok (.ireturn, 1) := by decide +kernel
theorem dX9_unroute_0 : decode cX9_unroute 0 = .ok (.aload_n 0, 1) := by decide +kernel
theorem dX9_unroute_1 : decode cX9_unroute 1 = .ok (.getfield 46, 3) := by decide +kernel
theorem dX9_unroute_4 : decode cX9_unroute 4 = .ok (.invokevirtual 186, 3) := by decide +kernel
theorem dX9_unroute_7 : decode cX9_unroute 7 = .ok (.ireturn, 1) := by decide +kernel
theorem dX9_needed_0 : decode cX9_needed 0 = .ok (.iload_n 1, 1) := by decide +kernel
theorem dX9_needed_1 : decode cX9_needed 1 = .ok (.iconst 0, 1) := by decide +kernel
theorem dX9_needed_2 : decode cX9_needed 2 = .ok (.iconst 1, 1) := by decide +kernel
theorem dX9_needed_3 : decode cX9_needed 3 = .ok (.invokestatic 77, 3) := by decide +kernel
theorem dX9_needed_6 : decode cX9_needed 6 = .ok (.ifCond .eq 14, 3) := by decide +kernel
theorem dX9_needed_9 : decode cX9_needed 9 = .ok (.aload_n 0, 1) := by decide +kernel
theorem dX9_needed_10 : decode cX9_needed 10 = .ok (.getfield 46, 3) := by decide +kernel
theorem dX9_needed_13 : decode cX9_needed 13 = .ok (.iload_n 1, 1) := by decide +kernel
theorem dX9_needed_14 : decode cX9_needed 14 = .ok (.invokevirtual 187, 3) := by decide +kernel
theorem dX9_needed_17 : decode cX9_needed 17 = .ok (.goto 5, 3) := by decide +kernel
theorem dX9_needed_20 : decode cX9_needed 20 = .ok (.bipush (-3), 2) := by decide +kernel
theorem dX9_needed_22 : decode cX9_needed 22 = .ok (.ireturn, 1) := by decide +kernel
theorem dX9_trail_0 : decode cX9_trail 0 = .ok (.iload_n 1, 1) := by decide +kernel
theorem dX9_trail_1 : decode cX9_trail 1 = .ok (.invokestatic 73, 3) := by decide +kernel
theorem dX9_trail_4 : decode cX9_trail 4 = .ok (.ifCond .ne 6, 3) := by decide +kernel
theorem dX9_trail_7 : decode cX9_trail 7 = .ok (.bipush (-2), 2) := by decide +kernel
theorem dX9_trail_9 : decode cX9_trail 9 = .ok (.ireturn, 1) := by decide +kernel
theorem dX9_trail_10 : decode cX9_trail 10 = .ok (.aload_n 0, 1) := by decide +kernel
theorem dX9_trail_11 : decode cX9_trail 11 = .ok (.getfield 55, 3) := by decide +kernel
theorem dX9_trail_14 : decode cX9_trail 14 = .ok (.invokevirtual 190, 3) := by decide +kernel
theorem dX9_trail_17 : decode cX9_trail 17 = .ok (.bipush 6, 2) := by decide +kernel
theorem dX9_trail_19 : decode cX9_trail 19 = .ok (.if_icmp .lt 8, 3) := by decide +kernel
theorem dX9_trail_22 : decode cX9_trail 22 = .ok (.bipush (-5), 2) := by decide +kernel
theorem dX9_trail_24 : decode cX9_trail 24 = .ok (.goto 12, 3) := by decide +kernel
theorem dX9_trail_27 : decode cX9_trail 27 = .ok (.aload_n 0, 1) := by decide +kernel
theorem dX9_trail_28 : decode cX9_trail 28 = .ok (.getfield 55, 3) := by decide +kernel
theorem dX9_trail_31 : decode cX9_trail 31 = .ok (.iload_n 1, 1) := by decide +kernel
theorem dX9_trail_32 : decode cX9_trail 32 = .ok (.iload_n 2, 1) := by decide +kernel
theorem dX9_trail_33 : decode cX9_trail 33 = .ok (.invokevirtual 193, 3) := by decide +kernel
theorem dX9_trail_36 : decode cX9_trail 36 = .ok (.ireturn, 1) := by decide +kernel
theorem dX9_add_0 : decode cX9_add 0 = .ok (.iload_n 1, 1) := by decide +kernel
theorem dX9_add_1 : decode cX9_add 1 = .ok (.iconst 0, 1) := by decide +kernel
theorem dX9_add_2 : decode cX9_add 2 = .ok (.aload_n 0, 1) := by decide +kernel
theorem dX9_add_3 : decode cX9_add 3 = .ok (.getfield 55, 3) := by decide +kernel
theorem dX9_add_6 : decode cX9_add 6 = .ok (.invokevirtual 190, 3) := by decide +kernel
theorem dX9_add_9 : decode cX9_add 9 = .ok (.iconst 1, 1) := by decide +kernel
theorem dX9_add_10 : decode cX9_add 10 = .ok (.isub, 1) := by decide +kernel
theorem dX9_add_11 : decode cX9_add 11 = .ok (.invokestatic 77, 3) := by decide +kernel
theorem dX9_add_14 : decode cX9_add 14 = .ok (.ifCond .eq 10, 3) := by decide +kernel
theorem dX9_add_17 : decode cX9_add 17 = .ok (.iload_n 2, 1) := by decide +kernel
theorem dX9_add_18 : decode cX9_add 18 = .ok (.invokestatic 73, 3) := by decide +kernel
theorem dX9_add_21 : decode cX9_add 21 = .ok (.ifCond .ne 6, 3) := by decide +kernel
theorem dX9_add_24 : decode cX9_add 24 = .ok (.bipush (-2), 2) := by decide +kernel
theorem dX9_add_26 : decode cX9_add 26 = .ok (.ireturn, 1) := by decide +kernel
theorem dX9_add_27 : decode cX9_add 27 = .ok (.aload_n 0, 1) := by decide +kernel
theorem dX9_add_28 : decode cX9_add 28 = .ok (.getfield 55, 3) := by decide +kernel
theorem dX9_add_31 : decode cX9_add 31 = .ok (.iload_n 1, 1) := by decide +kernel
theorem dX9_add_32 : decode cX9_add 32 = .ok (.iload_n 2, 1) := by decide +kernel
theorem dX9_add_33 : decode cX9_add 33 = .ok (.invokevirtual 197, 3) := by decide +kernel
theorem dX9_add_36 : decode cX9_add 36 = .ok (.ifCond .ne 6, 3) := by decide +kernel
theorem dX9_add_39 : decode cX9_add 39 = .ok (.bipush (-4), 2) := by decide +kernel
theorem dX9_add_41 : decode cX9_add 41 = .ok (.ireturn, 1) := by decide +kernel
theorem dX9_add_42 : decode cX9_add 42 = .ok (.aload_n 0, 1) := by decide +kernel
theorem dX9_add_43 : decode cX9_add 43 = .ok (.getfield 55, 3) := by decide +kernel
theorem dX9_add_46 : decode cX9_add 46 = .ok (.iload_n 1, 1) := by decide +kernel
theorem dX9_add_47 : decode cX9_add 47 = .ok (.invokevirtual 199, 3) := by decide +kernel
theorem dX9_add_50 : decode cX9_add 50 = .ok (.bipush 6, 2) := by decide +kernel
theorem dX9_add_52 : decode cX9_add 52 = .ok (.if_icmp .lt 8, 3) := by decide +kernel
theorem dX9_add_55 : decode cX9_add 55 = .ok (.bipush (-5), 2) := by decide +kernel
theorem dX9_add_57 : decode cX9_add 57 = .ok (.goto 12, 3) := by decide +kernel
theorem dX9_add_60 : decode cX9_add 60 = .ok (.aload_n 0, 1) := by decide +kernel
theorem dX9_add_61 : decode cX9_add 61 = .ok (.getfield 55, 3) := by decide +kernel
theorem dX9_add_64 : decode cX9_add 64 = .ok (.iload_n 1, 1) := by decide +kernel
theorem dX9_add_65 : decode cX9_add 65 = .ok (.iload_n 2, 1) := by decide +kernel
theorem dX9_add_66 : decode cX9_add 66 = .ok (.invokevirtual 202, 3) := by decide +kernel
theorem dX9_add_69 : decode cX9_add 69 = .ok (.ireturn, 1) := by decide +kernel
theorem dX9_breaks_0 : decode cX9_breaks 0 = .ok (.iload_n 1, 1) := by decide +kernel
theorem dX9_breaks_1 : decode cX9_breaks 1 = .ok (.iconst 0, 1) := by decide +kernel
theorem dX9_breaks_2 : decode cX9_breaks 2 = .ok (.aload_n 0, 1) := by decide +kernel
theorem dX9_breaks_3 : decode cX9_breaks 3 = .ok (.getfield 55, 3) := by decide +kernel
theorem dX9_breaks_6 : decode cX9_breaks 6 = .ok (.invokevirtual 190, 3) := by decide +kernel
theorem dX9_breaks_9 : decode cX9_breaks 9 = .ok (.iconst 1, 1) := by decide +kernel
theorem dX9_breaks_10 : decode cX9_breaks 10 = .ok (.isub, 1) := by decide +kernel
theorem dX9_breaks_11 : decode cX9_breaks 11 = .ok (.invokestatic 77, 3) := by decide +kernel
theorem dX9_breaks_14 : decode cX9_breaks 14 = .ok (.ifCond .eq 14, 3) := by decide +kernel
theorem dX9_breaks_17 : decode cX9_breaks 17 = .ok (.aload_n 0, 1) := by decide +kernel
theorem dX9_breaks_18 : decode cX9_breaks 18 = .ok (.getfield 55, 3) := by decide +kernel
theorem dX9_breaks_21 : decode cX9_breaks 21 = .ok (.iload_n 1, 1) := by decide +kernel
theorem dX9_breaks_22 : decode cX9_breaks 22 = .ok (.invokevirtual 204, 3) := by decide +kernel
theorem dX9_breaks_25 : decode cX9_breaks 25 = .ok (.goto 5, 3) := by decide +kernel
theorem dX9_breaks_28 : decode cX9_breaks 28 = .ok (.bipush (-2), 2) := by decide +kernel
theorem dX9_breaks_30 : decode cX9_breaks 30 = .ok (.ireturn, 1) := by decide +kernel
theorem dX9_branch_0 : decode cX9_branch 0 = .ok (.iload_n 1, 1) := by decide +kernel
theorem dX9_branch_1 : decode cX9_branch 1 = .ok (.iconst 1, 1) := by decide +kernel
theorem dX9_branch_2 : decode cX9_branch 2 = .ok (.bipush 20, 2) := by decide +kernel
theorem dX9_branch_4 : decode cX9_branch 4 = .ok (.invokestatic 77, 3) := by decide +kernel
theorem dX9_branch_7 : decode cX9_branch 7 = .ok (.ifCond .ne 6, 3) := by decide +kernel
theorem dX9_branch_10 : decode cX9_branch 10 = .ok (.bipush (-3), 2) := by decide +kernel
theorem dX9_branch_12 : decode cX9_branch 12 = .ok (.ireturn, 1) := by decide +kernel
theorem dX9_branch_13 : decode cX9_branch 13 = .ok (.aload_n 0, 1) := by decide +kernel
theorem dX9_branch_14 : decode cX9_branch 14 = .ok (.getfield 62, 3) := by decide +kernel
theorem dX9_branch_17 : decode cX9_branch 17 = .ok (.invokevirtual 207, 3) := by decide +kernel
theorem dX9_branch_20 : decode cX9_branch 20 = .ok (.iconst 5, 1) := by decide +kernel
theorem dX9_branch_21 : decode cX9_branch 21 = .ok (.if_icmp .lt 8, 3) := by decide +kernel
theorem dX9_branch_24 : decode cX9_branch 24 = .ok (.bipush (-5), 2) := by decide +kernel
theorem dX9_branch_26 : decode cX9_branch 26 = .ok (.goto 11, 3) := by decide +kernel
theorem dX9_branch_29 : decode cX9_branch 29 = .ok (.aload_n 0, 1) := by decide +kernel
theorem dX9_branch_30 : decode cX9_branch 30 = .ok (.getfield 62, 3) := by decide +kernel
theorem dX9_branch_33 : decode cX9_branch 33 = .ok (.iload_n 1, 1) := by decide +kernel
theorem dX9_branch_34 : decode cX9_branch 34 = .ok (.invokevirtual 210, 3) := by decide +kernel
theorem dX9_branch_37 : decode cX9_branch 37 = .ok (.ireturn, 1) := by decide +kernel
theorem dX9_unbranch_0 : decode cX9_unbranch 0 = .ok (.aload_n 0, 1) := by decide +kernel
theorem dX9_unbranch_1 : decode cX9_unbranch 1 = .ok (.getfield 62, 3) := by decide +kernel
theorem dX9_unbranch_4 : decode cX9_unbranch 4 = .ok (.invokevirtual 213, 3) := by decide +kernel
theorem dX9_unbranch_7 : decode cX9_unbranch 7 = .ok (.ireturn, 1) := by decide +kernel
theorem dX9_worst_0 : decode cX9_worst 0 = .ok (.iload_n 1, 1) := by decide +kernel
theorem dX9_worst_1 : decode cX9_worst 1 = .ok (.iconst 1, 1) := by decide +kernel
theorem dX9_worst_2 : decode cX9_worst 2 = .ok (.iconst 3, 1) := by decide +kernel
theorem dX9_worst_3 : decode cX9_worst 3 = .ok (.invokestatic 77, 3) := by decide +kernel
theorem dX9_worst_6 : decode cX9_worst 6 = .ok (.ifCond .eq 14, 3) := by decide +kernel
theorem dX9_worst_9 : decode cX9_worst 9 = .ok (.aload_n 0, 1) := by decide +kernel
theorem dX9_worst_10 : decode cX9_worst 10 = .ok (.getfield 62, 3) := by decide +kernel
theorem dX9_worst_13 : decode cX9_worst 13 = .ok (.iload_n 1, 1) := by decide +kernel
theorem dX9_worst_14 : decode cX9_worst 14 = .ok (.invokevirtual 214, 3) := by decide +kernel
theorem dX9_worst_17 : decode cX9_worst 17 = .ok (.goto 5, 3) := by decide +kernel
theorem dX9_worst_20 : decode cX9_worst 20 = .ok (.bipush (-3), 2) := by decide +kernel
theorem dX9_worst_22 : decode cX9_worst 22 = .ok (.ireturn, 1) := by decide +kernel
theorem dX9_split_0 : decode cX9_split 0 = .ok (.iload_n 2, 1) := by decide +kernel
theorem dX9_split_1 : decode cX9_split 1 = .ok (.iconst 0, 1) := by decide +kernel
theorem dX9_split_2 : decode cX9_split 2 = .ok (.aload_n 0, 1) := by decide +kernel
theorem dX9_split_3 : decode cX9_split 3 = .ok (.getfield 62, 3) := by decide +kernel
theorem dX9_split_6 : decode cX9_split 6 = .ok (.invokevirtual 207, 3) := by decide +kernel
theorem dX9_split_9 : decode cX9_split 9 = .ok (.iconst 1, 1) := by decide +kernel
theorem dX9_split_10 : decode cX9_split 10 = .ok (.isub, 1) := by decide +kernel
theorem dX9_split_11 : decode cX9_split 11 = .ok (.invokestatic 77, 3) := by decide +kernel
theorem dX9_split_14 : decode cX9_split 14 = .ok (.ifCond .ne 6, 3) := by decide +kernel
theorem dX9_split_17 : decode cX9_split 17 = .ok (.bipush (-2), 2) := by decide +kernel
theorem dX9_split_19 : decode cX9_split 19 = .ok (.ireturn, 1) := by decide +kernel
theorem dX9_split_20 : decode cX9_split 20 = .ok (.iload_n 1, 1) := by decide +kernel
theorem dX9_split_21 : decode cX9_split 21 = .ok (.iconst 1, 1) := by decide +kernel
theorem dX9_split_22 : decode cX9_split 22 = .ok (.iconst 3, 1) := by decide +kernel
theorem dX9_split_23 : decode cX9_split 23 = .ok (.invokestatic 77, 3) := by decide +kernel
theorem dX9_split_26 : decode cX9_split 26 = .ok (.ifCond .eq 12, 3) := by decide +kernel
theorem dX9_split_29 : decode cX9_split 29 = .ok (.iload_n 3, 1) := by decide +kernel
theorem dX9_split_30 : decode cX9_split 30 = .ok (.iconst 0, 1) := by decide +kernel
theorem dX9_split_31 : decode cX9_split 31 = .ok (.iconst 1, 1) := by decide +kernel
theorem dX9_split_32 : decode cX9_split 32 = .ok (.invokestatic 77, 3) := by decide +kernel
theorem dX9_split_35 : decode cX9_split 35 = .ok (.ifCond .ne 6, 3) := by decide +kernel
theorem dX9_split_38 : decode cX9_split 38 = .ok (.bipush (-3), 2) := by decide +kernel
theorem dX9_split_40 : decode cX9_split 40 = .ok (.ireturn, 1) := by decide +kernel
theorem dX9_split_41 : decode cX9_split 41 = .ok (.aload_n 0, 1) := by decide +kernel
theorem dX9_split_42 : decode cX9_split 42 = .ok (.getfield 62, 3) := by decide +kernel
theorem dX9_split_45 : decode cX9_split 45 = .ok (.iload_n 1, 1) := by decide +kernel
theorem dX9_split_46 : decode cX9_split 46 = .ok (.invokevirtual 214, 3) := by decide +kernel
theorem dX9_split_49 : decode cX9_split 49 = .ok (.pop, 1) := by decide +kernel
theorem dX9_split_50 : decode cX9_split 50 = .ok (.iload_n 3, 1) := by decide +kernel
theorem dX9_split_51 : decode cX9_split 51 = .ok (.ifCond .ne 14, 3) := by decide +kernel
theorem dX9_split_54 : decode cX9_split 54 = .ok (.aload_n 0, 1) := by decide +kernel
theorem dX9_split_55 : decode cX9_split 55 = .ok (.getfield 62, 3) := by decide +kernel
theorem dX9_split_58 : decode cX9_split 58 = .ok (.iload_n 2, 1) := by decide +kernel
theorem dX9_split_59 : decode cX9_split 59 = .ok (.invokevirtual 217, 3) := by decide +kernel
theorem dX9_split_62 : decode cX9_split 62 = .ok (.goto 11, 3) := by decide +kernel
theorem dX9_split_65 : decode cX9_split 65 = .ok (.aload_n 0, 1) := by decide +kernel
theorem dX9_split_66 : decode cX9_split 66 = .ok (.getfield 62, 3) := by decide +kernel
theorem dX9_split_69 : decode cX9_split 69 = .ok (.iload_n 2, 1) := by decide +kernel
theorem dX9_split_70 : decode cX9_split 70 = .ok (.invokevirtual 220, 3) := by decide +kernel
theorem dX9_split_73 : decode cX9_split 73 = .ok (.ireturn, 1) := by decide +kernel
theorem dX9_club_0 : decode cX9_club 0 = .ok (.iload_n 1, 1) := by decide +kernel
theorem dX9_club_1 : decode cX9_club 1 = .ok (.invokestatic 223, 3) := by decide +kernel
theorem dX9_club_4 : decode cX9_club 4 = .ok (.ifCond .ne 6, 3) := by decide +kernel
theorem dX9_club_7 : decode cX9_club 7 = .ok (.bipush (-2), 2) := by decide +kernel
theorem dX9_club_9 : decode cX9_club 9 = .ok (.ireturn, 1) := by decide +kernel
theorem dX9_club_10 : decode cX9_club 10 = .ok (.iload_n 2, 1) := by decide +kernel
theorem dX9_club_11 : decode cX9_club 11 = .ok (.aload_n 0, 1) := by decide +kernel
theorem dX9_club_12 : decode cX9_club 12 = .ok (.getfield 10, 3) := by decide +kernel
theorem dX9_club_15 : decode cX9_club 15 = .ok (.invokevirtual 226, 3) := by decide +kernel
theorem dX9_club_18 : decode cX9_club 18 = .ok (.iconst (-1), 1) := by decide +kernel
theorem dX9_club_19 : decode cX9_club 19 = .ok (.ixor, 1) := by decide +kernel
theorem dX9_club_20 : decode cX9_club 20 = .ok (.iand, 1) := by decide +kernel
theorem dX9_club_21 : decode cX9_club 21 = .ok (.ifCond .ne 15, 3) := by decide +kernel
theorem dX9_club_24 : decode cX9_club 24 = .ok (.aload_n 0, 1) := by decide +kernel
theorem dX9_club_25 : decode cX9_club 25 = .ok (.getfield 69, 3) := by decide +kernel
theorem dX9_club_28 : decode cX9_club 28 = .ok (.iload_n 1, 1) := by decide +kernel
theorem dX9_club_29 : decode cX9_club 29 = .ok (.iload_n 2, 1) := by decide +kernel
theorem dX9_club_30 : decode cX9_club 30 = .ok (.invokevirtual 229, 3) := by decide +kernel
theorem dX9_club_33 : decode cX9_club 33 = .ok (.goto 5, 3) := by decide +kernel
theorem dX9_club_36 : decode cX9_club 36 = .ok (.bipush (-3), 2) := by decide +kernel
theorem dX9_club_38 : decode cX9_club 38 = .ok (.ireturn, 1) := by decide +kernel
theorem dX9_colour_0 : decode cX9_colour 0 = .ok (.iload_n 1, 1) := by decide +kernel
theorem dX9_colour_1 : decode cX9_colour 1 = .ok (.invokestatic 223, 3) := by decide +kernel
theorem dX9_colour_4 : decode cX9_colour 4 = .ok (.ifCond .ne 6, 3) := by decide +kernel
theorem dX9_colour_7 : decode cX9_colour 7 = .ok (.bipush (-2), 2) := by decide +kernel
theorem dX9_colour_9 : decode cX9_colour 9 = .ok (.ireturn, 1) := by decide +kernel
theorem dX9_colour_10 : decode cX9_colour 10 = .ok (.iload_n 2, 1) := by decide +kernel
theorem dX9_colour_11 : decode cX9_colour 11 = .ok (.invokestatic 232, 3) := by decide +kernel
theorem dX9_colour_14 : decode cX9_colour 14 = .ok (.ifCond .eq 14, 3) := by decide +kernel
theorem dX9_colour_17 : decode cX9_colour 17 = .ok (.iload_n 3, 1) := by decide +kernel
theorem dX9_colour_18 : decode cX9_colour 18 = .ok (.iconst 0, 1) := by decide +kernel
theorem dX9_colour_19 : decode cX9_colour 19 = .ok (.sipush 400, 3) := by decide +kernel
theorem dX9_colour_22 : decode cX9_colour 22 = .ok (.invokestatic 77, 3) := by decide +kernel
theorem dX9_colour_25 : decode cX9_colour 25 = .ok (.ifCond .ne 6, 3) := by decide +kernel
theorem dX9_colour_28 : decode cX9_colour 28 = .ok (.bipush (-3), 2) := by decide +kernel
theorem dX9_colour_30 : decode cX9_colour 30 = .ok (.ireturn, 1) := by decide +kernel
theorem dX9_colour_31 : decode cX9_colour 31 = .ok (.aload_n 0, 1) := by decide +kernel
theorem dX9_colour_32 : decode cX9_colour 32 = .ok (.getfield 69, 3) := by decide +kernel
theorem dX9_colour_35 : decode cX9_colour 35 = .ok (.invokevirtual 235, 3) := by decide +kernel
theorem dX9_colour_38 : decode cX9_colour 38 = .ok (.bipush 8, 2) := by decide +kernel
theorem dX9_colour_40 : decode cX9_colour 40 = .ok (.if_icmp .lt 8, 3) := by decide +kernel
theorem dX9_colour_43 : decode cX9_colour 43 = .ok (.bipush (-5), 2) := by decide +kernel
theorem dX9_colour_45 : decode cX9_colour 45 = .ok (.goto 13, 3) := by decide +kernel
theorem dX9_colour_48 : decode cX9_colour 48 = .ok (.aload_n 0, 1) := by decide +kernel
theorem dX9_colour_49 : decode cX9_colour 49 = .ok (.getfield 69, 3) := by decide +kernel
theorem dX9_colour_52 : decode cX9_colour 52 = .ok (.iload_n 1, 1) := by decide +kernel
theorem dX9_colour_53 : decode cX9_colour 53 = .ok (.iload_n 2, 1) := by decide +kernel
theorem dX9_colour_54 : decode cX9_colour 54 = .ok (.iload_n 3, 1) := by decide +kernel
theorem dX9_colour_55 : decode cX9_colour 55 = .ok (.invokevirtual 238, 3) := by decide +kernel
theorem dX9_colour_58 : decode cX9_colour 58 = .ok (.ireturn, 1) := by decide +kernel
theorem dX9_whose_0 : decode cX9_whose 0 = .ok (.iload_n 1, 1) := by decide +kernel
theorem dX9_whose_1 : decode cX9_whose 1 = .ok (.iconst 0, 1) := by decide +kernel
theorem dX9_whose_2 : decode cX9_whose 2 = .ok (.aload_n 0, 1) := by decide +kernel
theorem dX9_whose_3 : decode cX9_whose 3 = .ok (.getfield 10, 3) := by decide +kernel
theorem dX9_whose_6 : decode cX9_whose 6 = .ok (.invokevirtual 85, 3) := by decide +kernel
theorem dX9_whose_9 : decode cX9_whose 9 = .ok (.iconst 1, 1) := by decide +kernel
theorem dX9_whose_10 : decode cX9_whose 10 = .ok (.isub, 1) := by decide +kernel
theorem dX9_whose_11 : decode cX9_whose 11 = .ok (.invokestatic 77, 3) := by decide +kernel
theorem dX9_whose_14 : decode cX9_whose 14 = .ok (.ifCond .ne 6, 3) := by decide +kernel
theorem dX9_whose_17 : decode cX9_whose 17 = .ok (.bipush (-2), 2) := by decide +kernel
theorem dX9_whose_19 : decode cX9_whose 19 = .ok (.ireturn, 1) := by decide +kernel
theorem dX9_whose_20 : decode cX9_whose 20 = .ok (.iload_n 2, 1) := by decide +kernel
theorem dX9_whose_21 : decode cX9_whose 21 = .ok (.invokestatic 232, 3) := by decide +kernel
theorem dX9_whose_24 : decode cX9_whose 24 = .ok (.ifCond .eq 24, 3) := by decide +kernel
theorem dX9_whose_27 : decode cX9_whose 27 = .ok (.iload_n 3, 1) := by decide +kernel
theorem dX9_whose_28 : decode cX9_whose 28 = .ok (.iconst 0, 1) := by decide +kernel
theorem dX9_whose_29 : decode cX9_whose 29 = .ok (.sipush 400, 3) := by decide +kernel
theorem dX9_whose_32 : decode cX9_whose 32 = .ok (.invokestatic 77, 3) := by decide +kernel
theorem dX9_whose_35 : decode cX9_whose 35 = .ok (.ifCond .eq 13, 3) := by decide +kernel
theorem dX9_whose_38 : decode cX9_whose 38 = .ok (.iload 4, 2) := by decide +kernel
theorem dX9_whose_40 : decode cX9_whose 40 = .ok (.iconst 0, 1) := by decide +kernel
theorem dX9_whose_41 : decode cX9_whose 41 = .ok (.iconst 1, 1) := by decide +kernel
theorem dX9_whose_42 : decode cX9_whose 42 = .ok (.invokestatic 77, 3) := by decide +kernel
theorem dX9_whose_45 : decode cX9_whose 45 = .ok (.ifCond .ne 6, 3) := by decide +kernel
theorem dX9_whose_48 : decode cX9_whose 48 = .ok (.bipush (-3), 2) := by decide +kernel
theorem dX9_whose_50 : decode cX9_whose 50 = .ok (.ireturn, 1) := by decide +kernel
theorem dX9_whose_51 : decode cX9_whose 51 = .ok (.aload_n 0, 1) := by decide +kernel
theorem dX9_whose_52 : decode cX9_whose 52 = .ok (.getfield 69, 3) := by decide +kernel
theorem dX9_whose_55 : decode cX9_whose 55 = .ok (.iload_n 1, 1) := by decide +kernel
theorem dX9_whose_56 : decode cX9_whose 56 = .ok (.iload_n 2, 1) := by decide +kernel
theorem dX9_whose_57 : decode cX9_whose 57 = .ok (.iload_n 3, 1) := by decide +kernel
theorem dX9_whose_58 : decode cX9_whose 58 = .ok (.iload 4, 2) := by decide +kernel
theorem dX9_whose_60 : decode cX9_whose 60 = .ok (.iconst 1, 1) := by decide +kernel
theorem dX9_whose_61 : decode cX9_whose 61 = .ok (.if_icmp .ne 7, 3) := by decide +kernel
theorem dX9_whose_64 : decode cX9_whose 64 = .ok (.iconst 1, 1) := by decide +kernel
theorem dX9_whose_65 : decode cX9_whose 65 = .ok (.goto 4, 3) := by decide +kernel
theorem dX9_whose_68 : decode cX9_whose 68 = .ok (.iconst 0, 1) := by decide +kernel
theorem dX9_whose_69 : decode cX9_whose 69 = .ok (.invokevirtual 241, 3) := by decide +kernel
theorem dX9_whose_72 : decode cX9_whose 72 = .ok (.ireturn, 1) := by decide +kernel
theorem dX9_count_0 : decode cX9_count 0 = .ok (.iload_n 1, 1) := by decide +kernel
theorem dX9_count_1 : decode cX9_count 1 = .ok (.tableswitch 111 0 7 #[47, 55, 63, 71, 79, 87, 95, 103], 47) := by decide +kernel
theorem dX9_count_48 : decode cX9_count 48 = .ok (.aload_n 0, 1) := by decide +kernel
theorem dX9_count_49 : decode cX9_count 49 = .ok (.getfield 10, 3) := by decide +kernel
theorem dX9_count_52 : decode cX9_count 52 = .ok (.invokevirtual 85, 3) := by decide +kernel
theorem dX9_count_55 : decode cX9_count 55 = .ok (.ireturn, 1) := by decide +kernel
theorem dX9_count_56 : decode cX9_count 56 = .ok (.aload_n 0, 1) := by decide +kernel
theorem dX9_count_57 : decode cX9_count 57 = .ok (.getfield 21, 3) := by decide +kernel
theorem dX9_count_60 : decode cX9_count 60 = .ok (.invokevirtual 116, 3) := by decide +kernel
theorem dX9_count_63 : decode cX9_count 63 = .ok (.ireturn, 1) := by decide +kernel
theorem dX9_count_64 : decode cX9_count 64 = .ok (.aload_n 0, 1) := by decide +kernel
theorem dX9_count_65 : decode cX9_count 65 = .ok (.getfield 21, 3) := by decide +kernel
theorem dX9_count_68 : decode cX9_count 68 = .ok (.invokevirtual 245, 3) := by decide +kernel
theorem dX9_count_71 : decode cX9_count 71 = .ok (.ireturn, 1) := by decide +kernel
theorem dX9_count_72 : decode cX9_count 72 = .ok (.aload_n 0, 1) := by decide +kernel
theorem dX9_count_73 : decode cX9_count 73 = .ok (.getfield 21, 3) := by decide +kernel
theorem dX9_count_76 : decode cX9_count 76 = .ok (.invokevirtual 97, 3) := by decide +kernel
theorem dX9_count_79 : decode cX9_count 79 = .ok (.ireturn, 1) := by decide +kernel
theorem dX9_count_80 : decode cX9_count 80 = .ok (.aload_n 0, 1) := by decide +kernel
theorem dX9_count_81 : decode cX9_count 81 = .ok (.getfield 37, 3) := by decide +kernel
theorem dX9_count_84 : decode cX9_count 84 = .ok (.invokevirtual 162, 3) := by decide +kernel
theorem dX9_count_87 : decode cX9_count 87 = .ok (.ireturn, 1) := by decide +kernel
theorem dX9_count_88 : decode cX9_count 88 = .ok (.aload_n 0, 1) := by decide +kernel
theorem dX9_count_89 : decode cX9_count 89 = .ok (.getfield 46, 3) := by decide +kernel
theorem dX9_count_92 : decode cX9_count 92 = .ok (.invokevirtual 180, 3) := by decide +kernel
theorem dX9_count_95 : decode cX9_count 95 = .ok (.ireturn, 1) := by decide +kernel
theorem dX9_count_96 : decode cX9_count 96 = .ok (.aload_n 0, 1) := by decide +kernel
theorem dX9_count_97 : decode cX9_count 97 = .ok (.getfield 55, 3) := by decide +kernel
theorem dX9_count_100 : decode cX9_count 100 = .ok (.invokevirtual 190, 3) := by decide +kernel
theorem dX9_count_103 : decode cX9_count 103 = .ok (.ireturn, 1) := by decide +kernel
theorem dX9_count_104 : decode cX9_count 104 = .ok (.aload_n 0, 1) := by decide +kernel
theorem dX9_count_105 : decode cX9_count 105 = .ok (.getfield 62, 3) := by decide +kernel
theorem dX9_count_108 : decode cX9_count 108 = .ok (.invokevirtual 207, 3) := by decide +kernel
theorem dX9_count_111 : decode cX9_count 111 = .ok (.ireturn, 1) := by decide +kernel
theorem dX9_count_112 : decode cX9_count 112 = .ok (.bipush (-3), 2) := by decide +kernel
theorem dX9_count_114 : decode cX9_count 114 = .ok (.ireturn, 1) := by decide +kernel
theorem dX9_isWithin_0 : decode cX9_isWithin 0 = .ok (.iload_n 0, 1) := by decide +kernel
theorem dX9_isWithin_1 : decode cX9_isWithin 1 = .ok (.iload_n 1, 1) := by decide +kernel
theorem dX9_isWithin_2 : decode cX9_isWithin 2 = .ok (.if_icmp .lt 12, 3) := by decide +kernel
theorem dX9_isWithin_5 : decode cX9_isWithin 5 = .ok (.iload_n 0, 1) := by decide +kernel
theorem dX9_isWithin_6 : decode cX9_isWithin 6 = .ok (.iload_n 2, 1) := by decide +kernel
theorem dX9_isWithin_7 : decode cX9_isWithin 7 = .ok (.if_icmp .gt 7, 3) := by decide +kernel
theorem dX9_isWithin_10 : decode cX9_isWithin 10 = .ok (.iconst 1, 1) := by decide +kernel
theorem dX9_isWithin_11 : decode cX9_isWithin 11 = .ok (.goto 4, 3) := by decide +kernel
theorem dX9_isWithin_14 : decode cX9_isWithin 14 = .ok (.iconst 0, 1) := by decide +kernel
theorem dX9_isWithin_15 : decode cX9_isWithin 15 = .ok (.ireturn, 1) := by decide +kernel
theorem dX9_isPlace_0 : decode cX9_isPlace 0 = .ok (.iload_n 0, 1) := by decide +kernel
theorem dX9_isPlace_1 : decode cX9_isPlace 1 = .ok (.iconst 0, 1) := by decide +kernel
theorem dX9_isPlace_2 : decode cX9_isPlace 2 = .ok (.bipush 9, 2) := by decide +kernel
theorem dX9_isPlace_4 : decode cX9_isPlace 4 = .ok (.invokestatic 77, 3) := by decide +kernel
theorem dX9_isPlace_7 : decode cX9_isPlace 7 = .ok (.ireturn, 1) := by decide +kernel
theorem dX9_isClub_0 : decode cX9_isClub 0 = .ok (.iload_n 0, 1) := by decide +kernel
theorem dX9_isClub_1 : decode cX9_isClub 1 = .ok (.iconst 0, 1) := by decide +kernel
theorem dX9_isClub_2 : decode cX9_isClub 2 = .ok (.iconst 3, 1) := by decide +kernel
theorem dX9_isClub_3 : decode cX9_isClub 3 = .ok (.invokestatic 77, 3) := by decide +kernel
theorem dX9_isClub_6 : decode cX9_isClub 6 = .ok (.ireturn, 1) := by decide +kernel
theorem dX9_isColour_0 : decode cX9_isColour 0 = .ok (.iload_n 0, 1) := by decide +kernel
theorem dX9_isColour_1 : decode cX9_isColour 1 = .ok (.iconst 0, 1) := by decide +kernel
theorem dX9_isColour_2 : decode cX9_isColour 2 = .ok (.iconst 5, 1) := by decide +kernel
theorem dX9_isColour_3 : decode cX9_isColour 3 = .ok (.invokestatic 77, 3) := by decide +kernel
theorem dX9_isColour_6 : decode cX9_isColour 6 = .ok (.ireturn, 1) := by decide +kernel
theorem dX9_isOfPath_0 : decode cX9_isOfPath 0 = .ok (.iload_n 0, 1) := by decide +kernel
theorem dX9_isOfPath_1 : decode cX9_isOfPath 1 = .ok (.ifCond .eq 8, 3) := by decide +kernel
theorem dX9_isOfPath_4 : decode cX9_isOfPath 4 = .ok (.iload_n 0, 1) := by decide +kernel
theorem dX9_isOfPath_5 : decode cX9_isOfPath 5 = .ok (.iconst 1, 1) := by decide +kernel
theorem dX9_isOfPath_6 : decode cX9_isOfPath 6 = .ok (.if_icmp .ne 7, 3) := by decide +kernel
theorem dX9_isOfPath_9 : decode cX9_isOfPath 9 = .ok (.iconst 1, 1) := by decide +kernel
theorem dX9_isOfPath_10 : decode cX9_isOfPath 10 = .ok (.goto 4, 3) := by decide +kernel
theorem dX9_isOfPath_13 : decode cX9_isOfPath 13 = .ok (.iconst 0, 1) := by decide +kernel
theorem dX9_isOfPath_14 : decode cX9_isOfPath 14 = .ok (.ireturn, 1) := by decide +kernel
theorem dX9_isSignValue_0 : decode cX9_isSignValue 0 = .ok (.iload_n 0, 1) := by decide +kernel
theorem dX9_isSignValue_1 : decode cX9_isSignValue 1 = .ok (.iconst 2, 1) := by decide +kernel
theorem dX9_isSignValue_2 : decode cX9_isSignValue 2 = .ok (.if_icmp .ne 11, 3) := by decide +kernel
theorem dX9_isSignValue_5 : decode cX9_isSignValue 5 = .ok (.iload_n 1, 1) := by decide +kernel
theorem dX9_isSignValue_6 : decode cX9_isSignValue 6 = .ok (.iconst 0, 1) := by decide +kernel
theorem dX9_isSignValue_7 : decode cX9_isSignValue 7 = .ok (.bipush 9, 2) := by decide +kernel
theorem dX9_isSignValue_9 : decode cX9_isSignValue 9 = .ok (.invokestatic 77, 3) := by decide +kernel
theorem dX9_isSignValue_12 : decode cX9_isSignValue 12 = .ok (.ireturn, 1) := by decide +kernel
theorem dX9_isSignValue_13 : decode cX9_isSignValue 13 = .ok (.iload_n 0, 1) := by decide +kernel
theorem dX9_isSignValue_14 : decode cX9_isSignValue 14 = .ok (.iconst 3, 1) := by decide +kernel
theorem dX9_isSignValue_15 : decode cX9_isSignValue 15 = .ok (.if_icmp .ne 10, 3) := by decide +kernel
theorem dX9_isSignValue_18 : decode cX9_isSignValue 18 = .ok (.iload_n 1, 1) := by decide +kernel
theorem dX9_isSignValue_19 : decode cX9_isSignValue 19 = .ok (.invokestatic 232, 3) := by decide +kernel
theorem dX9_isSignValue_22 : decode cX9_isSignValue 22 = .ok (.goto 7, 3) := by decide +kernel
theorem dX9_isSignValue_25 : decode cX9_isSignValue 25 = .ok (.iload_n 0, 1) := by decide +kernel
theorem dX9_isSignValue_26 : decode cX9_isSignValue 26 = .ok (.invokestatic 103, 3) := by decide +kernel
theorem dX9_isSignValue_29 : decode cX9_isSignValue 29 = .ok (.ireturn, 1) := by decide +kernel
theorem dX9_bitOf_0 : decode cX9_bitOf 0 = .ok (.iload_n 0, 1) := by decide +kernel
theorem dX9_bitOf_1 : decode cX9_bitOf 1 = .ok (.iconst 0, 1) := by decide +kernel
theorem dX9_bitOf_2 : decode cX9_bitOf 2 = .ok (.bipush 15, 2) := by decide +kernel
theorem dX9_bitOf_4 : decode cX9_bitOf 4 = .ok (.invokestatic 77, 3) := by decide +kernel
theorem dX9_bitOf_7 : decode cX9_bitOf 7 = .ok (.ifCond .eq 9, 3) := by decide +kernel
theorem dX9_bitOf_10 : decode cX9_bitOf 10 = .ok (.iconst 1, 1) := by decide +kernel
theorem dX9_bitOf_11 : decode cX9_bitOf 11 = .ok (.iload_n 0, 1) := by decide +kernel
theorem dX9_bitOf_12 : decode cX9_bitOf 12 = .ok (.ishl, 1) := by decide +kernel
theorem dX9_bitOf_13 : decode cX9_bitOf 13 = .ok (.goto 4, 3) := by decide +kernel
theorem dX9_bitOf_16 : decode cX9_bitOf 16 = .ok (.iconst 0, 1) := by decide +kernel
theorem dX9_bitOf_17 : decode cX9_bitOf 17 = .ok (.ireturn, 1) := by decide +kernel
end
section
/-! the words that all methods need, in one list; nest words; contracts that only read, contracts that write -/
abbrev big : List Cond := wsL_law
theorem big_self : GoodIn big big := fun w h => ⟨h, (big_G w h).2⟩
theorem big_code {y : MethodName} {c : ByteArray} {n : Nat} {r : Option FieldType} (h : Cond.code y c n r ∈ big) : GoodIn big (.code y c n r :: big) := fun w hw => (List.mem_cons.mp hw).elim (fun e => by rw [e]; exact big_self _ h) (big_self w)
def nwL : List (String × Nat × MethodName) := [("TwigsAndStones", 61, yX1_init), ("TwigsAndStones", 68, yX0_init), ("TwigsAndStones", 9, yX2_init), (RX0, 56, yX9_bitOf), (RX2, 47, yX9_bitOf), (RX2, 54, yX9_isPlace), (RX3, 77, yX9_bitOf), (RX4, 74, yX9_bitOf), (RX6, 90, yX9_bitOf), (RX6, 93, yX9_isOfPath), (RX8, 52, yX9_bitOf)]
def nwc (q : String × Nat × MethodName) : Cond := .methodLinkNest q.1 q.2.1 q.2.2 "TwigsAndStones"
def KX (D : va_G) (cI cZ : ClassId) (U : State) : Prop := va_K D vwCl [(cI, .int), (cZ, .boolean)] U ∧ ∀ q ∈ nwL, va_Nw (nwc q) U
theorem KX.warm {D : va_G} {cI cZ : ClassId} {s U : State} (h : KX D cI cZ s) (hW : s.WarmedH U.vm) : KX D cI cZ U := ⟨va_K.moved hW.alike h.1, fun q hq => va_Nw.warmM hW (h.2 q hq)⟩
theorem KX.calling {D : va_G} {cI cZ : ClassId} {U : State} (h : KX D cI cZ U) (g : JFrame) (mk : MethodId) (a : Array Value) : KX D cI cZ (U.calling g mk a) := ⟨va_K.moved (u := U) (U := U.calling g mk a) (Vm.Alike.refl U.vm) h.1, fun q hq => va_Nw.same (w := nwc q) rfl (u := U) rfl (h.2 q hq)⟩
abbrev roP (D : va_G) (cI cZ : ClassId) (av : List Value) (ws : va_W) : Array Value → State → Prop := va_Pc av (fun U => KX D cI cZ U ∧ va_P D vwCl ws U.heap)
abbrev RO (l : Launch) (D : va_G) (cI cZ : ClassId) (y : MethodName) (cds : List Cond) (rm : Room) (av : List Value) (ws : va_W) (r : Int32) : Prop := Met l y cds rm (roP D cI cZ av ws) (QcRead r) 0 0 (fun _ => False)
def inW (ws : va_W) : Nat → Prop := fun q => ∃ (k : Nat) (e : va_E), ws[k]? = some (q, e)
abbrev muP (D : va_G) (cI cZ : ClassId) (av : List Value) (ws : va_W) : Array Value → State → Prop := va_Pc av (fun U => KX D cI cZ U ∧ va_P D vwCl ws U.heap ∧ va_D (fun _ => True) ws)
def QcMi {S : Type} (D : va_G) (ws : va_W) (post : Int32 → S → Prop) (wf : S → va_W) : Array Value → State → Outcome → State → Prop := fun _ st o t => (∃ (r : Int32) (u : S), o = .returned (some (.int r)) ∧ post r u ∧ va_P D vwCl (wf u) t.heap) ∧ va_F (inW ws) st t
def QcMv {S : Type} (D : va_G) (ws : va_W) (post : S → Prop) (wf : S → va_W) : Array Value → State → Outcome → State → Prop := fun _ st o t => (∃ u : S, o = .returned none ∧ post u ∧ va_P D vwCl (wf u) t.heap) ∧ va_F (inW ws) st t
abbrev MI {S : Type} (l : Launch) (D : va_G) (cI cZ : ClassId) (y : MethodName) (cds : List Cond) (rm : Room) (av : List Value) (ws : va_W) (post : Int32 → S → Prop) (wf : S → va_W) : Prop := Met l y cds rm (muP D cI cZ av ws) (QcMi D ws post wf) 0 0 (inW ws)
abbrev MV {S : Type} (l : Launch) (D : va_G) (cI cZ : ClassId) (y : MethodName) (cds : List Cond) (rm : Room) (av : List Value) (ws : va_W) (post : S → Prop) (wf : S → va_W) : Prop := Met l y cds rm (muP D cI cZ av ws) (QcMv D ws post wf) 0 0 (inW ws)
theorem ro_pre {D : va_G} {cI cZ : ClassId} {s : State} {H : Heap} {av : List Value} {ws : va_W} (hK : KX D cI cZ s) (hP : va_P D vwCl ws H) : PreS s H (roP D cI cZ av ws) av :=
  ⟨fun a U g mk q => ⟨q.1, q.2.1.calling g mk a, q.2.2⟩, fun U hU hW => ⟨rfl, hK.warm hW, by rw [hU]; exact hP⟩⟩
theorem mu_pre {D : va_G} {cI cZ : ClassId} {s : State} {H : Heap} {av : List Value} {ws : va_W} (hK : KX D cI cZ s) (hP : va_P D vwCl ws H) (hD : va_D (fun _ => True) ws) : PreS s H (muP D cI cZ av ws) av :=
  ⟨fun a U g mk q => ⟨q.1, q.2.1.calling g mk a, q.2.2⟩, fun U hU hW => ⟨rfl, hK.warm hW, by rw [hU]; exact hP, hD⟩⟩
theorem P_nil {D : va_G} {cl : List vw_C} {H : Heap} : va_P D cl [] H := fun k q h => by simp at h
theorem D_inW {A : Nat → Prop} {ws : va_W} (h : va_D A ws) : va_D (inW ws) ws := ⟨h.1, fun k q hk => ⟨k, q.2, hk⟩⟩
/-- the callee's cells at the places 'is' are now w1; the others stand -/
theorem P_put {A : Nat → Prop} {D : va_G} {cl : List vw_C} {ws wc w1 ws' : va_W} {H H1 : Heap} (hP : va_P D cl ws H) (hD : va_D A ws) (is isR : List Nat)
    (hC : is.map (fun i => ws[i]?) = wc.map some) (h1 : is.map (fun i => ws'[i]?) = w1.map some) (hA1 : w1.map (·.1) = wc.map (·.1)) (hR : isR.map (fun i => ws'[i]?) = isR.map (fun i => ws[i]?))
    (hn : (List.range ws'.length).all (fun i => decide (i ∈ is) || decide (i ∈ isR)) = true) (hdis : is.all (fun i => !decide (i ∈ isR)) = true)
    (hlen : isR.all (fun i => decide (i < ws.length)) = true)
    (hP1 : va_P D cl w1 H1) (hk : ∀ q : Nat, q < H.size → ¬ inW wc q → H1[q]? = H[q]?) : va_P D cl ws' H1 := by
  intro k q hq
  have hkl : k < ws'.length := (List.getElem?_eq_some_iff.mp hq).1
  have hk2 := List.all_eq_true.mp hn k (List.mem_range.mpr hkl)
  simp only [Bool.or_eq_true, decide_eq_true_eq] at hk2
  have pos : ∀ {α : Type} (is : List Nat) (f : Nat → Option α) (l : List α), is.map f = l.map some → ∀ k ∈ is, ∃ (j : Nat) (x : α), f k = some x ∧ l[j]? = some x ∧ is[j]? = some k := by
    intro α is f l h k hk
    obtain ⟨j, hj⟩ := List.getElem?_of_mem hk
    have e := congrArg (fun l => l[j]?) h
    simp only [List.getElem?_map, hj, Option.map_some] at e
    cases hx : l[j]? with
    | none => rw [hx] at e; simp at e
    | some x => rw [hx] at e; exact ⟨j, x, by simpa using e, hx, hj⟩
  by_cases hin : k ∈ is
  · obtain ⟨j, x, e1, e2, -⟩ := pos is _ w1 h1 k hin
    rw [hq] at e1
    obtain rfl := Option.some.inj e1
    exact hP1 j _ e2
  · have hr : k ∈ isR := hk2.resolve_left hin
    have hq0 : ws[k]? = some q := by
      obtain ⟨j, hj⟩ := List.getElem?_of_mem hr
      have e := congrArg (fun l => l[j]?) hR
      simp only [List.getElem?_map, hj, Option.map_some] at e
      rw [← hq]; exact (Option.some.inj e).symm
    refine (hP k q hq0).kept (hk q.1 (hP k q hq0).lt ?_)
    rintro ⟨j, e, hj⟩
    have e := congrArg (fun l => l[j]?) hC
    simp only [List.getElem?_map, hj, Option.map_some] at e
    cases hi : is[j]? with
    | none => rw [hi] at e; simp at e
    | some i =>
      rw [hi] at e
      have hwi := Option.some.inj e
      have hik := hD.1 i k _ _ hwi hq0 rfl
      subst hik
      exact hin (List.mem_of_getElem? hi)
theorem D_put {A : Nat → Prop} {ws ws' : va_W} (hD : va_D A ws) (h : ws'.map (·.1) = ws.map (·.1)) : va_D A ws' := by
  have g : ∀ (k : Nat) (q : Nat × va_E), ws'[k]? = some q → ∃ q0, ws[k]? = some q0 ∧ q0.1 = q.1 := by
    intro k q hq
    have e := congrArg (fun l => l[k]?) h
    simp only [List.getElem?_map, hq, Option.map_some] at e
    cases hx : ws[k]? with
    | none => rw [hx] at e; simp at e
    | some x => rw [hx] at e; exact ⟨x, rfl, by simpa using e.symm⟩
  refine ⟨fun i j p q hp hq hpq => ?_, fun k q hq => ?_⟩
  · obtain ⟨p0, a1, a2⟩ := g i p hp
    obtain ⟨q0, b1, b2⟩ := g j q hq
    exact hD.1 i j p0 q0 a1 b1 (by rw [a2, b2, hpq])
  · obtain ⟨q0, a1, a2⟩ := g k q hq
    rw [← a2]; exact hD.2 k q0 a1
theorem inW_of {wc ws : va_W} {A : Nat → Prop} (hD : va_D A ws) (is : List Nat) (hC : is.map (fun i => ws[i]?) = wc.map some) : ∀ q, inW wc q → A q := by
  rintro q ⟨j, e, hj⟩
  have e := congrArg (fun l => l[j]?) hC
  simp only [List.getElem?_map, hj, Option.map_some] at e
  cases hi : is[j]? with
  | none => rw [hi] at e; simp at e
  | some i => rw [hi] at e; exact hD.2 i _ (Option.some.inj e)
section Z1
variable {p : Program} {l : Launch} {e : Env} {R : Room} {s : State} {m : MethodId} {args : Array Value} {below : List Frame} {meth : Method} {c : Code} {H : Heap} {locs : List Loc} {cells slots : Nat} {Q : State → Prop}
variable {y : MethodName} {bytes cc : ByteArray} {maxL nL n index pc : Nat} {ret : Option FieldType} {cds : List Cond} {rm : Room} {Ts : List Cond} {own C : String} {b : Addr} {As rest st : List Value} {ls : Array Slot} {g : JFrame}
variable {D : va_G} {cI cZ : ClassId} {wc : va_W}
theorem W.callRv {r : Int32} {a : Array Value} (hr : va_Run p l e R s m args below meth c H locs cells slots 0 0 g rest (QcRead r a) (fun _ => False)) (kk : W p l e R s m args below meth c H locs cells slots Q { g with pc := g.pc + 3, stack := .int r :: rest }) : W p l e R s m args below meth c H locs cells slots Q g := by
  intro T hT X
  obtain ⟨v, st₀, t, T', L, h0, X', hL, e1, -, ⟨hv, hh⟩, st⟩ := hr T hT X
  cases hv
  obtain ⟨t2, a1, b1⟩ := kk T' (by rw [e1, hh, h0]) (Stand.forget X' (fun q h => (hL q h).elim))
  exact ⟨t2, st t2 a1, b1⟩
theorem W.callMi {S : Type} {post : Int32 → S → Prop} {wf : S → va_W} {a : Array Value} {A0 : Nat → Prop} {H0 : Heap} (hr : va_Run p l e R s m args below meth c H locs cells slots 0 0 g rest (QcMi D wc post wf a) (inW wc)) (hS : va_S A0 H0 H locs) (hf : ∀ q, inW wc q → A0 q)
    (kk : ∀ (r : Int32) (u : S) (H1 : Heap) (locs1 : List Loc), post r u → va_P D vwCl (wf u) H1 → (∀ q : Nat, q < H.size → ¬ inW wc q → H1[q]? = H[q]?) → va_S A0 H0 H1 locs1 → W p l e R s m args below meth c H1 locs1 cells slots Q { g with pc := g.pc + 3, stack := .int r :: rest }) : W p l e R s m args below meth c H locs cells slots Q g := by
  intro T hT X
  obtain ⟨v, st₀, t, T', L, h0, X', hL, e1, e2, ⟨⟨r, u, hv, hp, hb⟩, hz, hk⟩, st⟩ := hr T hT X
  cases hv
  rw [h0] at hz hk
  obtain ⟨t2, a1, b1⟩ := kk r u T'.heap (locs ++ L) hp (by rw [e1]; exact hb) (fun q h1 h2 => by rw [e1]; exact hk q h1 h2)
    ⟨Nat.le_trans hS.1 (by rw [e1]; exact hz), fun q h1 h2 => by rw [e1, hk q (Nat.lt_of_lt_of_le h1 hS.1) (fun z => h2 (hf q z))]; exact hS.2.1 q h1 h2, fun q hq => by
      rcases List.mem_append.mp hq with h | h
      · exact hS.2.2 q h
      · exact hf _ (hL q h)⟩ T' rfl X'
  exact ⟨t2, st t2 a1, b1⟩
theorem W.callMv {S : Type} {post : S → Prop} {wf : S → va_W} {a : Array Value} {A0 : Nat → Prop} {H0 : Heap} (hr : va_Run p l e R s m args below meth c H locs cells slots 0 0 g rest (QcMv D wc post wf a) (inW wc)) (hS : va_S A0 H0 H locs) (hf : ∀ q, inW wc q → A0 q)
    (kk : ∀ (u : S) (H1 : Heap) (locs1 : List Loc), post u → va_P D vwCl (wf u) H1 → (∀ q : Nat, q < H.size → ¬ inW wc q → H1[q]? = H[q]?) → va_S A0 H0 H1 locs1 → W p l e R s m args below meth c H1 locs1 cells slots Q { g with pc := g.pc + 3, stack := rest }) : W p l e R s m args below meth c H locs cells slots Q g := by
  intro T hT X
  obtain ⟨v, st₀, t, T', L, h0, X', hL, e1, e2, ⟨⟨u, hv, hp, hb⟩, hz, hk⟩, st⟩ := hr T hT X
  cases hv
  rw [h0] at hz hk
  obtain ⟨t2, a1, b1⟩ := kk u T'.heap (locs ++ L) hp (by rw [e1]; exact hb) (fun q h1 h2 => by rw [e1]; exact hk q h1 h2)
    ⟨Nat.le_trans hS.1 (by rw [e1]; exact hz), fun q h1 h2 => by rw [e1, hk q (Nat.lt_of_lt_of_le h1 hS.1) (fun z => h2 (hf q z))]; exact hS.2.1 q h1 h2, fun q hq => by
      rcases List.mem_append.mp hq with h | h
      · exact hS.2.2 q h
      · exact hf _ (hL q h)⟩ T' rfl X'
  exact ⟨t2, st t2 a1, b1⟩
theorem ro_V {r : Int32} (S : CallFix p m c cc nL s args Ts own) (hM : RO l D cI cZ y cds rm (.ref b :: As) wc r) (cw : CallW R s args own C index y bytes maxL ret cds rm 0 0 n) (hK : KX D cI cZ s) (hP : va_P D vwCl wc H) {ci : Nat} {fs : List Value} {T : u_T} {N : Nat} (he : wc[0]? = some (b, .inr (ci, fs))) (hc : vwCl[ci]? = some (C, T, N))
    (hn : As.length = n) (hsize : ls.size = nL) (hst : st = As.reverse ++ .ref b :: rest) (hroom : (rest.map fun v => v.category).sum ≤ 8) (hdg : decode cc pc = .ok (.invokevirtual index, 3)) (hf : cells ≤ R.cells ∧ slots ≤ R.slots)
    (kk : W p l e R s m args below meth c H locs cells slots Q (F0 m (pc + 3) ls (.int r :: rest))) : W p l e R s m args below meth c H locs cells slots Q (F0 m pc ls st) :=
  W.callRv (va_runV S hM cw ⟨(ro_pre hK hP).1, va_recv hK.1 hP hc he, (ro_pre hK hP).2⟩ rfl hn hsize hst (lv_room hroom) hdg hf) kk
theorem ro_S {r : Int32} (S : CallFix p m c cc nL s args Ts own) (hM : RO l D cI cZ y cds rm As wc r) (cw : CallB R s args own index y bytes maxL ret cds rm 0 0 n ∧ (Cond.static y).before args s = true) (hK : KX D cI cZ s) (hP : va_P D vwCl wc H)
    (hn : As.length = n) (hsize : ls.size = nL) (hst : st = As.reverse ++ rest) (hroom : (rest.map fun v => v.category).sum ≤ 8) (hdg : decode cc pc = .ok (.invokestatic index, 3)) (hf : cells ≤ R.cells ∧ slots ≤ R.slots)
    (kk : W p l e R s m args below meth c H locs cells slots Q (F0 m (pc + 3) ls (.int r :: rest))) : W p l e R s m args below meth c H locs cells slots Q (F0 m pc ls st) :=
  W.callRv (va_runS S hM cw (ro_pre hK hP) rfl hn hsize hst (lv_room hroom) hdg hf) kk
theorem ro_SN {host : String} {r : Int32} (S : CallFix p m c cc nL s args Ts own) (hM : RO l D cI cZ y cds rm As wc r) (cw : va_CN R s args own index y host bytes maxL ret cds rm 0 0 n ∧ (Cond.static y).before args s = true ∧ True) (hK : KX D cI cZ s) (hP : va_P D vwCl wc H)
    (hn : As.length = n) (hsize : ls.size = nL) (hst : st = As.reverse ++ rest) (hroom : (rest.map fun v => v.category).sum ≤ 8) (hdg : decode cc pc = .ok (.invokestatic index, 3)) (hf : cells ≤ R.cells ∧ slots ≤ R.slots)
    (kk : W p l e R s m args below meth c H locs cells slots Q (F0 m (pc + 3) ls (.int r :: rest))) : W p l e R s m args below meth c H locs cells slots Q (F0 m pc ls st) :=
  W.callRv (va_runSN S hM cw (ro_pre hK hP) rfl hn hsize hst (lv_room hroom) hdg hf) kk
theorem mi_V {S1 : Type} {post : Int32 → S1 → Prop} {wf : S1 → va_W} {A0 : Nat → Prop} {H0 : Heap} {ws : va_W} (S : CallFix p m c cc nL s args Ts own) (hM : MI l D cI cZ y cds rm (.ref b :: As) wc post wf) (cw : CallW R s args own C index y bytes maxL ret cds rm 0 0 n) (hK : KX D cI cZ s) (hP : va_P D vwCl ws H) (hD : va_D A0 ws) (hS : va_S A0 H0 H locs)
    (is isR : List Nat) (wn : S1 → va_W) (hC : is.map (fun i => ws[i]?) = wc.map some) (hnd : va_nd is = true) (h1 : ∀ u, is.map (fun i => (wn u)[i]?) = (wf u).map some) (hA1 : ∀ u, (wf u).map (·.1) = wc.map (·.1)) (hR : ∀ u, isR.map (fun i => (wn u)[i]?) = isR.map (fun i => ws[i]?)) (hA2 : ∀ u, (wn u).map (·.1) = ws.map (·.1))
    (hall : (List.range ws.length).all (fun i => decide (i ∈ is) || decide (i ∈ isR)) = true) (hdis : is.all (fun i => !decide (i ∈ isR)) = true) (hlen : isR.all (fun i => decide (i < ws.length)) = true)
    {ci : Nat} {fs : List Value} {T : u_T} {N : Nat} (he : wc[0]? = some (b, .inr (ci, fs))) (hc : vwCl[ci]? = some (C, T, N))
    (hn : As.length = n) (hsize : ls.size = nL) (hst : st = As.reverse ++ .ref b :: rest) (hroom : (rest.map fun v => v.category).sum ≤ 8) (hdg : decode cc pc = .ok (.invokevirtual index, 3)) (hf : cells ≤ R.cells ∧ slots ≤ R.slots)
    (kk : ∀ (r : Int32) (u : S1) (H1 : Heap) (locs1 : List Loc), post r u → va_P D vwCl (wn u) H1 → va_D A0 (wn u) → va_S A0 H0 H1 locs1 → W p l e R s m args below meth c H1 locs1 cells slots Q (F0 m (pc + 3) ls (.int r :: rest))) : W p l e R s m args below meth c H locs cells slots Q (F0 m pc ls st) := by
  have hPc : va_P D vwCl wc H := hP.sub is (by
    have : ∀ (l : List Nat) (w : va_W), l.map (fun i => ws[i]?) = w.map some → l.filterMap (fun i => ws[i]?) = w := by
      intro l
      induction l with
      | nil => intro w h; cases w with
        | nil => rfl
        | cons a t => simp at h
      | cons i l ih => intro w h; cases w with
        | nil => simp at h
        | cons a t =>
          simp only [List.map_cons, List.cons.injEq] at h
          rw [List.filterMap_cons, h.1, ih t h.2]
    exact this is wc hC)
  have hDc : va_D (fun _ => True) wc := (hD.sub is hnd hC).weaken (fun _ _ _ _ => trivial)
  refine W.callMi (va_runV S hM cw ⟨(mu_pre hK hPc hDc).1, va_recv hK.1 hPc hc he, (mu_pre hK hPc hDc).2⟩ rfl hn hsize hst (lv_room hroom) hdg hf) hS (inW_of hD is hC) (fun r u H1 locs1 hp hP1 hk hS1 => ?_)
  have hl2 : (wn u).length = ws.length := by have := congrArg List.length (hA2 u); simpa using this
  exact kk r u H1 locs1 hp (P_put hP hD is isR hC (h1 u) (hA1 u) (hR u) (by rw [hl2]; exact hall) hdis hlen hP1 hk) (D_put hD (hA2 u)) hS1
theorem mv_V {S1 : Type} {post : S1 → Prop} {wf : S1 → va_W} {A0 : Nat → Prop} {H0 : Heap} {ws : va_W} (S : CallFix p m c cc nL s args Ts own) (hM : MV l D cI cZ y cds rm (.ref b :: As) wc post wf) (cw : CallW R s args own C index y bytes maxL ret cds rm 0 0 n) (hK : KX D cI cZ s) (hP : va_P D vwCl ws H) (hD : va_D A0 ws) (hS : va_S A0 H0 H locs)
    (is isR : List Nat) (wn : S1 → va_W) (hC : is.map (fun i => ws[i]?) = wc.map some) (hnd : va_nd is = true) (h1 : ∀ u, is.map (fun i => (wn u)[i]?) = (wf u).map some) (hA1 : ∀ u, (wf u).map (·.1) = wc.map (·.1)) (hR : ∀ u, isR.map (fun i => (wn u)[i]?) = isR.map (fun i => ws[i]?)) (hA2 : ∀ u, (wn u).map (·.1) = ws.map (·.1))
    (hall : (List.range ws.length).all (fun i => decide (i ∈ is) || decide (i ∈ isR)) = true) (hdis : is.all (fun i => !decide (i ∈ isR)) = true) (hlen : isR.all (fun i => decide (i < ws.length)) = true)
    {ci : Nat} {fs : List Value} {T : u_T} {N : Nat} (he : wc[0]? = some (b, .inr (ci, fs))) (hc : vwCl[ci]? = some (C, T, N))
    (hn : As.length = n) (hsize : ls.size = nL) (hst : st = As.reverse ++ .ref b :: rest) (hroom : (rest.map fun v => v.category).sum ≤ 8) (hdg : decode cc pc = .ok (.invokevirtual index, 3)) (hf : cells ≤ R.cells ∧ slots ≤ R.slots)
    (kk : ∀ (u : S1) (H1 : Heap) (locs1 : List Loc), post u → va_P D vwCl (wn u) H1 → va_D A0 (wn u) → va_S A0 H0 H1 locs1 → W p l e R s m args below meth c H1 locs1 cells slots Q (F0 m (pc + 3) ls rest)) : W p l e R s m args below meth c H locs cells slots Q (F0 m pc ls st) := by
  have hPc : va_P D vwCl wc H := hP.sub is (by
    have : ∀ (l : List Nat) (w : va_W), l.map (fun i => ws[i]?) = w.map some → l.filterMap (fun i => ws[i]?) = w := by
      intro l
      induction l with
      | nil => intro w h; cases w with
        | nil => rfl
        | cons a t => simp at h
      | cons i l ih => intro w h; cases w with
        | nil => simp at h
        | cons a t =>
          simp only [List.map_cons, List.cons.injEq] at h
          rw [List.filterMap_cons, h.1, ih t h.2]
    exact this is wc hC)
  have hDc : va_D (fun _ => True) wc := (hD.sub is hnd hC).weaken (fun _ _ _ _ => trivial)
  refine W.callMv (va_runV S hM cw ⟨(mu_pre hK hPc hDc).1, va_recv hK.1 hPc hc he, (mu_pre hK hPc hDc).2⟩ rfl hn hsize hst (lv_room hroom) hdg hf) hS (inW_of hD is hC) (fun u H1 locs1 hp hP1 hk hS1 => ?_)
  have hl2 : (wn u).length = ws.length := by have := congrArg List.length (hA2 u); simpa using this
  exact kk u H1 locs1 hp (P_put hP hD is isR hC (h1 u) (hA1 u) (hR u) (by rw [hl2]; exact hall) hdis hlen hP1 hk) (D_put hD (hA2 u)) hS1
/-- two roads that meet; a loop, the heap as it is; a loop that writes -/
theorem w_join {α : Type} (I : α → Prop) (lv : α → List (Nat × Value)) (stk : α → List Value) (pcJ nL : Nat) (k1 : (∀ (a : α) (ls : Array Slot), I a → lv_has ls nL (lv a) → W p l e R s m args below meth c H locs cells slots Q (F0 m pcJ ls (stk a))) → W p l e R s m args below meth c H locs cells slots Q g)
    (k2 : ∀ (a : α) (ls : Array Slot), I a → lv_has ls nL (lv a) → W p l e R s m args below meth c H locs cells slots Q (F0 m pcJ ls (stk a))) : W p l e R s m args below meth c H locs cells slots Q g := k1 k2
theorem w_joinH {α : Type} {A : Nat → Prop} {H0 : Heap} (I : α → Prop) (wsl : α → va_W) (lv : α → List (Nat × Value)) (stk : α → List Value) (pcJ nL : Nat) (k1 : (∀ (a : α) (ls : Array Slot) (H : Heap) (locs : List Loc), I a → lv_has ls nL (lv a) → va_P D vwCl (wsl a) H → va_D A (wsl a) → va_S A H0 H locs → W p l e R s m args below meth c H locs cells slots Q (F0 m pcJ ls (stk a))) → W p l e R s m args below meth c H locs cells slots Q g)
    (k2 : ∀ (a : α) (ls : Array Slot) (H : Heap) (locs : List Loc), I a → lv_has ls nL (lv a) → va_P D vwCl (wsl a) H → va_D A (wsl a) → va_S A H0 H locs → W p l e R s m args below meth c H locs cells slots Q (F0 m pcJ ls (stk a))) : W p l e R s m args below meth c H locs cells slots Q g := k1 k2
theorem w_loop {α : Type} (I : α → Prop) (μ : α → Nat) (lv : α → List (Nat × Value)) (pcH nL : Nat)
    (hs : ∀ (a : α) (ls : Array Slot), I a → lv_has ls nL (lv a) → (∀ (b : α) (ls' : Array Slot), I b → μ b < μ a → lv_has ls' nL (lv b) → W p l e R s m args below meth c H locs cells slots Q (F0 m pcH ls' [])) → W p l e R s m args below meth c H locs cells slots Q (F0 m pcH ls []))
    (a : α) (hI : I a) (hl : lv_has ls nL (lv a)) : W p l e R s m args below meth c H locs cells slots Q (F0 m pcH ls []) := by
  have key : ∀ (n : Nat) (a : α) (ls : Array Slot), μ a < n → I a → lv_has ls nL (lv a) → W p l e R s m args below meth c H locs cells slots Q (F0 m pcH ls []) := by
    intro n
    induction n with
    | zero => intro a ls h; omega
    | succ n ih => intro a ls h hI hl; exact hs a ls hI hl (fun b ls' hb hlt hlb => ih b ls' (by omega) hb hlb)
  exact key (μ a + 1) a ls (by omega) hI hl
theorem w_loopH {α : Type} {A : Nat → Prop} {H0 : Heap} (I : α → Prop) (μ : α → Nat) (wsl : α → va_W) (lv : α → List (Nat × Value)) (pcH nL : Nat)
    (hs : ∀ (a : α) (ls : Array Slot) (H : Heap) (locs : List Loc), I a → lv_has ls nL (lv a) → va_P D vwCl (wsl a) H → va_D A (wsl a) → va_S A H0 H locs → (∀ (b : α) (ls' : Array Slot) (H' : Heap) (locs' : List Loc), I b → μ b < μ a → lv_has ls' nL (lv b) → va_P D vwCl (wsl b) H' → va_D A (wsl b) → va_S A H0 H' locs' → W p l e R s m args below meth c H' locs' cells slots Q (F0 m pcH ls' [])) → W p l e R s m args below meth c H locs cells slots Q (F0 m pcH ls []))
    (a : α) (hI : I a) (hl : lv_has ls nL (lv a)) (hP : va_P D vwCl (wsl a) H) (hD : va_D A (wsl a)) (hS : va_S A H0 H locs) : W p l e R s m args below meth c H locs cells slots Q (F0 m pcH ls []) := by
  have key : ∀ (n : Nat) (a : α) (ls : Array Slot) (H : Heap) (locs : List Loc), μ a < n → I a → lv_has ls nL (lv a) → va_P D vwCl (wsl a) H → va_D A (wsl a) → va_S A H0 H locs → W p l e R s m args below meth c H locs cells slots Q (F0 m pcH ls []) := by
    intro n
    induction n with
    | zero => intro a ls H locs h; omega
    | succ n ih => intro a ls H locs h hI hl hP hD hS; exact hs a ls H locs hI hl hP hD hS (fun b ls' H' locs' hb hlt hlb hP' hD' hS' => ih b ls' H' locs' (by omega) hb hlb hP' hD' hS')
  exact key (μ a + 1) a ls H locs (by omega) hI hl hP hD hS
end Z1
end
section
theorem in_r1 : ∀ w ∈ wsL_law_r1, w ∈ big := fun _ h => List.mem_append_left _ (List.mem_append_left _ (List.mem_append_left _ (List.mem_append_left _ (List.mem_append_left _ (List.mem_append_left _ (List.mem_append_left _ (List.mem_append_left _ (List.mem_append_left _ (List.mem_append_left _ (List.mem_append_left _ (List.mem_append_left _ (List.mem_append_left _ h))))))))))))
theorem in_r2 : ∀ w ∈ wsL_law_r2, w ∈ big := fun _ h => List.mem_append_left _ (List.mem_append_left _ (List.mem_append_left _ (List.mem_append_left _ (List.mem_append_left _ (List.mem_append_left _ (List.mem_append_left _ (List.mem_append_left _ (List.mem_append_left _ (List.mem_append_left _ (List.mem_append_left _ (List.mem_append_left _ (List.mem_append_right _ (List.mem_append_left _ h)))))))))))))
theorem in_r3 : ∀ w ∈ wsL_law_r3, w ∈ big := fun _ h => List.mem_append_left _ (List.mem_append_left _ (List.mem_append_left _ (List.mem_append_left _ (List.mem_append_left _ (List.mem_append_left _ (List.mem_append_left _ (List.mem_append_left _ (List.mem_append_left _ (List.mem_append_left _ (List.mem_append_left _ (List.mem_append_left _ (List.mem_append_right _ (List.mem_append_right _ (List.mem_append_left _ h))))))))))))))
theorem in_r4 : ∀ w ∈ wsL_law_r4, w ∈ big := fun _ h => List.mem_append_left _ (List.mem_append_left _ (List.mem_append_left _ (List.mem_append_left _ (List.mem_append_left _ (List.mem_append_left _ (List.mem_append_left _ (List.mem_append_left _ (List.mem_append_left _ (List.mem_append_left _ (List.mem_append_left _ (List.mem_append_left _ (List.mem_append_right _ (List.mem_append_right _ (List.mem_append_right _ (List.mem_append_left _ h)))))))))))))))
theorem in_r5 : ∀ w ∈ wsL_law_r5, w ∈ big := fun _ h => List.mem_append_left _ (List.mem_append_left _ (List.mem_append_left _ (List.mem_append_left _ (List.mem_append_left _ (List.mem_append_left _ (List.mem_append_left _ (List.mem_append_left _ (List.mem_append_left _ (List.mem_append_left _ (List.mem_append_left _ (List.mem_append_left _ (List.mem_append_right _ (List.mem_append_right _ (List.mem_append_right _ (List.mem_append_right _ (List.mem_append_left _ h))))))))))))))))
theorem in_r6 : ∀ w ∈ wsL_law_r6, w ∈ big := fun _ h => List.mem_append_left _ (List.mem_append_left _ (List.mem_append_left _ (List.mem_append_left _ (List.mem_append_left _ (List.mem_append_left _ (List.mem_append_left _ (List.mem_append_left _ (List.mem_append_left _ (List.mem_append_left _ (List.mem_append_left _ (List.mem_append_left _ (List.mem_append_right _ (List.mem_append_right _ (List.mem_append_right _ (List.mem_append_right _ (List.mem_append_right _ (List.mem_append_left _ h)))))))))))))))))
theorem in_r7 : ∀ w ∈ wsL_law_r7, w ∈ big := fun _ h => List.mem_append_left _ (List.mem_append_left _ (List.mem_append_left _ (List.mem_append_left _ (List.mem_append_left _ (List.mem_append_left _ (List.mem_append_left _ (List.mem_append_left _ (List.mem_append_left _ (List.mem_append_left _ (List.mem_append_left _ (List.mem_append_left _ (List.mem_append_right _ (List.mem_append_right _ (List.mem_append_right _ (List.mem_append_right _ (List.mem_append_right _ (List.mem_append_right _ (List.mem_append_left _ h))))))))))))))))))
theorem in_r8 : ∀ w ∈ wsL_law_r8, w ∈ big := fun _ h => List.mem_append_left _ (List.mem_append_left _ (List.mem_append_left _ (List.mem_append_left _ (List.mem_append_left _ (List.mem_append_left _ (List.mem_append_left _ (List.mem_append_left _ (List.mem_append_left _ (List.mem_append_left _ (List.mem_append_left _ (List.mem_append_left _ (List.mem_append_right _ (List.mem_append_right _ (List.mem_append_right _ (List.mem_append_right _ (List.mem_append_right _ (List.mem_append_right _ (List.mem_append_right _ (List.mem_append_left _ h)))))))))))))))))))
theorem in_r9 : ∀ w ∈ wsL_law_r9, w ∈ big := fun _ h => List.mem_append_left _ (List.mem_append_left _ (List.mem_append_left _ (List.mem_append_left _ (List.mem_append_left _ (List.mem_append_left _ (List.mem_append_left _ (List.mem_append_left _ (List.mem_append_left _ (List.mem_append_left _ (List.mem_append_left _ (List.mem_append_left _ (List.mem_append_right _ (List.mem_append_right _ (List.mem_append_right _ (List.mem_append_right _ (List.mem_append_right _ (List.mem_append_right _ (List.mem_append_right _ (List.mem_append_right _ (List.mem_append_left _ h))))))))))))))))))))
theorem in_r10 : ∀ w ∈ wsL_law_r10, w ∈ big := fun _ h => List.mem_append_left _ (List.mem_append_left _ (List.mem_append_left _ (List.mem_append_left _ (List.mem_append_left _ (List.mem_append_left _ (List.mem_append_left _ (List.mem_append_left _ (List.mem_append_left _ (List.mem_append_left _ (List.mem_append_left _ (List.mem_append_left _ (List.mem_append_right _ (List.mem_append_right _ (List.mem_append_right _ (List.mem_append_right _ (List.mem_append_right _ (List.mem_append_right _ (List.mem_append_right _ (List.mem_append_right _ (List.mem_append_right _ (List.mem_append_left _ h)))))))))))))))))))))
theorem in_r11 : ∀ w ∈ wsL_law_r11, w ∈ big := fun _ h => List.mem_append_left _ (List.mem_append_left _ (List.mem_append_left _ (List.mem_append_left _ (List.mem_append_left _ (List.mem_append_left _ (List.mem_append_left _ (List.mem_append_left _ (List.mem_append_left _ (List.mem_append_left _ (List.mem_append_left _ (List.mem_append_left _ (List.mem_append_right _ (List.mem_append_right _ (List.mem_append_right _ (List.mem_append_right _ (List.mem_append_right _ (List.mem_append_right _ (List.mem_append_right _ (List.mem_append_right _ (List.mem_append_right _ (List.mem_append_right _ (List.mem_append_left _ h))))))))))))))))))))))
theorem in_r12 : ∀ w ∈ wsL_law_r12, w ∈ big := fun _ h => List.mem_append_left _ (List.mem_append_left _ (List.mem_append_left _ (List.mem_append_left _ (List.mem_append_left _ (List.mem_append_left _ (List.mem_append_left _ (List.mem_append_left _ (List.mem_append_left _ (List.mem_append_left _ (List.mem_append_left _ (List.mem_append_left _ (List.mem_append_right _ (List.mem_append_right _ (List.mem_append_right _ (List.mem_append_right _ (List.mem_append_right _ (List.mem_append_right _ (List.mem_append_right _ (List.mem_append_right _ (List.mem_append_right _ (List.mem_append_right _ (List.mem_append_right _ (List.mem_append_left _ h)))))))))))))))))))))))
theorem in_r13 : ∀ w ∈ wsL_law_r13, w ∈ big := fun _ h => List.mem_append_left _ (List.mem_append_left _ (List.mem_append_left _ (List.mem_append_left _ (List.mem_append_left _ (List.mem_append_left _ (List.mem_append_left _ (List.mem_append_left _ (List.mem_append_left _ (List.mem_append_left _ (List.mem_append_left _ (List.mem_append_left _ (List.mem_append_right _ (List.mem_append_right _ (List.mem_append_right _ (List.mem_append_right _ (List.mem_append_right _ (List.mem_append_right _ (List.mem_append_right _ (List.mem_append_right _ (List.mem_append_right _ (List.mem_append_right _ (List.mem_append_right _ (List.mem_append_right _ (List.mem_append_left _ h))))))))))))))))))))))))
theorem in_r14 : ∀ w ∈ wsL_law_r14, w ∈ big := fun _ h => List.mem_append_left _ (List.mem_append_left _ (List.mem_append_left _ (List.mem_append_left _ (List.mem_append_left _ (List.mem_append_left _ (List.mem_append_left _ (List.mem_append_left _ (List.mem_append_left _ (List.mem_append_left _ (List.mem_append_left _ (List.mem_append_left _ (List.mem_append_right _ (List.mem_append_right _ (List.mem_append_right _ (List.mem_append_right _ (List.mem_append_right _ (List.mem_append_right _ (List.mem_append_right _ (List.mem_append_right _ (List.mem_append_right _ (List.mem_append_right _ (List.mem_append_right _ (List.mem_append_right _ (List.mem_append_right _ (List.mem_append_left _ h)))))))))))))))))))))))))
theorem in_r15 : ∀ w ∈ wsL_law_r15, w ∈ big := fun _ h => List.mem_append_left _ (List.mem_append_left _ (List.mem_append_left _ (List.mem_append_left _ (List.mem_append_left _ (List.mem_append_left _ (List.mem_append_left _ (List.mem_append_left _ (List.mem_append_left _ (List.mem_append_left _ (List.mem_append_left _ (List.mem_append_left _ (List.mem_append_right _ (List.mem_append_right _ (List.mem_append_right _ (List.mem_append_right _ (List.mem_append_right _ (List.mem_append_right _ (List.mem_append_right _ (List.mem_append_right _ (List.mem_append_right _ (List.mem_append_right _ (List.mem_append_right _ (List.mem_append_right _ (List.mem_append_right _ (List.mem_append_right _ (List.mem_append_left _ h))))))))))))))))))))))))))
theorem in_r16 : ∀ w ∈ wsL_law_r16, w ∈ big := fun _ h => List.mem_append_left _ (List.mem_append_left _ (List.mem_append_left _ (List.mem_append_left _ (List.mem_append_left _ (List.mem_append_left _ (List.mem_append_left _ (List.mem_append_left _ (List.mem_append_left _ (List.mem_append_left _ (List.mem_append_left _ (List.mem_append_left _ (List.mem_append_right _ (List.mem_append_right _ (List.mem_append_right _ (List.mem_append_right _ (List.mem_append_right _ (List.mem_append_right _ (List.mem_append_right _ (List.mem_append_right _ (List.mem_append_right _ (List.mem_append_right _ (List.mem_append_right _ (List.mem_append_right _ (List.mem_append_right _ (List.mem_append_right _ (List.mem_append_right _ (List.mem_append_left _ h)))))))))))))))))))))))))))
theorem in_r17 : ∀ w ∈ wsL_law_r17, w ∈ big := fun _ h => List.mem_append_left _ (List.mem_append_left _ (List.mem_append_left _ (List.mem_append_left _ (List.mem_append_left _ (List.mem_append_left _ (List.mem_append_left _ (List.mem_append_left _ (List.mem_append_left _ (List.mem_append_left _ (List.mem_append_left _ (List.mem_append_left _ (List.mem_append_right _ (List.mem_append_right _ (List.mem_append_right _ (List.mem_append_right _ (List.mem_append_right _ (List.mem_append_right _ (List.mem_append_right _ (List.mem_append_right _ (List.mem_append_right _ (List.mem_append_right _ (List.mem_append_right _ (List.mem_append_right _ (List.mem_append_right _ (List.mem_append_right _ (List.mem_append_right _ (List.mem_append_right _ (List.mem_append_left _ h))))))))))))))))))))))))))))
theorem in_r18 : ∀ w ∈ wsL_law_r18, w ∈ big := fun _ h => List.mem_append_left _ (List.mem_append_left _ (List.mem_append_left _ (List.mem_append_left _ (List.mem_append_left _ (List.mem_append_left _ (List.mem_append_left _ (List.mem_append_left _ (List.mem_append_left _ (List.mem_append_left _ (List.mem_append_left _ (List.mem_append_left _ (List.mem_append_right _ (List.mem_append_right _ (List.mem_append_right _ (List.mem_append_right _ (List.mem_append_right _ (List.mem_append_right _ (List.mem_append_right _ (List.mem_append_right _ (List.mem_append_right _ (List.mem_append_right _ (List.mem_append_right _ (List.mem_append_right _ (List.mem_append_right _ (List.mem_append_right _ (List.mem_append_right _ (List.mem_append_right _ (List.mem_append_right _ (List.mem_append_left _ h)))))))))))))))))))))))))))))
theorem in_r19 : ∀ w ∈ wsL_law_r19, w ∈ big := fun _ h => List.mem_append_left _ (List.mem_append_left _ (List.mem_append_left _ (List.mem_append_left _ (List.mem_append_left _ (List.mem_append_left _ (List.mem_append_left _ (List.mem_append_left _ (List.mem_append_left _ (List.mem_append_left _ (List.mem_append_left _ (List.mem_append_left _ (List.mem_append_right _ (List.mem_append_right _ (List.mem_append_right _ (List.mem_append_right _ (List.mem_append_right _ (List.mem_append_right _ (List.mem_append_right _ (List.mem_append_right _ (List.mem_append_right _ (List.mem_append_right _ (List.mem_append_right _ (List.mem_append_right _ (List.mem_append_right _ (List.mem_append_right _ (List.mem_append_right _ (List.mem_append_right _ (List.mem_append_right _ (List.mem_append_right _ (List.mem_append_left _ h))))))))))))))))))))))))))))))
theorem in_r20 : ∀ w ∈ wsL_law_r20, w ∈ big := fun _ h => List.mem_append_left _ (List.mem_append_left _ (List.mem_append_left _ (List.mem_append_left _ (List.mem_append_left _ (List.mem_append_left _ (List.mem_append_left _ (List.mem_append_left _ (List.mem_append_left _ (List.mem_append_left _ (List.mem_append_left _ (List.mem_append_left _ (List.mem_append_right _ (List.mem_append_right _ (List.mem_append_right _ (List.mem_append_right _ (List.mem_append_right _ (List.mem_append_right _ (List.mem_append_right _ (List.mem_append_right _ (List.mem_append_right _ (List.mem_append_right _ (List.mem_append_right _ (List.mem_append_right _ (List.mem_append_right _ (List.mem_append_right _ (List.mem_append_right _ (List.mem_append_right _ (List.mem_append_right _ (List.mem_append_right _ (List.mem_append_right _ (List.mem_append_left _ h)))))))))))))))))))))))))))))))
theorem in_r21 : ∀ w ∈ wsL_law_r21, w ∈ big := fun _ h => List.mem_append_left _ (List.mem_append_left _ (List.mem_append_left _ (List.mem_append_left _ (List.mem_append_left _ (List.mem_append_left _ (List.mem_append_left _ (List.mem_append_left _ (List.mem_append_left _ (List.mem_append_left _ (List.mem_append_left _ (List.mem_append_left _ (List.mem_append_right _ (List.mem_append_right _ (List.mem_append_right _ (List.mem_append_right _ (List.mem_append_right _ (List.mem_append_right _ (List.mem_append_right _ (List.mem_append_right _ (List.mem_append_right _ (List.mem_append_right _ (List.mem_append_right _ (List.mem_append_right _ (List.mem_append_right _ (List.mem_append_right _ (List.mem_append_right _ (List.mem_append_right _ (List.mem_append_right _ (List.mem_append_right _ (List.mem_append_right _ (List.mem_append_right _ (List.mem_append_left _ h))))))))))))))))))))))))))))))))
theorem in_r22 : ∀ w ∈ wsL_law_r22, w ∈ big := fun _ h => List.mem_append_left _ (List.mem_append_left _ (List.mem_append_left _ (List.mem_append_left _ (List.mem_append_left _ (List.mem_append_left _ (List.mem_append_left _ (List.mem_append_left _ (List.mem_append_left _ (List.mem_append_left _ (List.mem_append_left _ (List.mem_append_left _ (List.mem_append_right _ (List.mem_append_right _ (List.mem_append_right _ (List.mem_append_right _ (List.mem_append_right _ (List.mem_append_right _ (List.mem_append_right _ (List.mem_append_right _ (List.mem_append_right _ (List.mem_append_right _ (List.mem_append_right _ (List.mem_append_right _ (List.mem_append_right _ (List.mem_append_right _ (List.mem_append_right _ (List.mem_append_right _ (List.mem_append_right _ (List.mem_append_right _ (List.mem_append_right _ (List.mem_append_right _ (List.mem_append_right _ (List.mem_append_left _ h)))))))))))))))))))))))))))))))))
theorem in_r23 : ∀ w ∈ wsL_law_r23, w ∈ big := fun _ h => List.mem_append_left _ (List.mem_append_left _ (List.mem_append_left _ (List.mem_append_left _ (List.mem_append_left _ (List.mem_append_left _ (List.mem_append_left _ (List.mem_append_left _ (List.mem_append_left _ (List.mem_append_left _ (List.mem_append_left _ (List.mem_append_left _ (List.mem_append_right _ (List.mem_append_right _ (List.mem_append_right _ (List.mem_append_right _ (List.mem_append_right _ (List.mem_append_right _ (List.mem_append_right _ (List.mem_append_right _ (List.mem_append_right _ (List.mem_append_right _ (List.mem_append_right _ (List.mem_append_right _ (List.mem_append_right _ (List.mem_append_right _ (List.mem_append_right _ (List.mem_append_right _ (List.mem_append_right _ (List.mem_append_right _ (List.mem_append_right _ (List.mem_append_right _ (List.mem_append_right _ (List.mem_append_right _ (List.mem_append_left _ h))))))))))))))))))))))))))))))))))
theorem in_r24 : ∀ w ∈ wsL_law_r24, w ∈ big := fun _ h => List.mem_append_left _ (List.mem_append_left _ (List.mem_append_left _ (List.mem_append_left _ (List.mem_append_left _ (List.mem_append_left _ (List.mem_append_left _ (List.mem_append_left _ (List.mem_append_left _ (List.mem_append_left _ (List.mem_append_left _ (List.mem_append_left _ (List.mem_append_right _ (List.mem_append_right _ (List.mem_append_right _ (List.mem_append_right _ (List.mem_append_right _ (List.mem_append_right _ (List.mem_append_right _ (List.mem_append_right _ (List.mem_append_right _ (List.mem_append_right _ (List.mem_append_right _ (List.mem_append_right _ (List.mem_append_right _ (List.mem_append_right _ (List.mem_append_right _ (List.mem_append_right _ (List.mem_append_right _ (List.mem_append_right _ (List.mem_append_right _ (List.mem_append_right _ (List.mem_append_right _ (List.mem_append_right _ (List.mem_append_right _ (List.mem_append_left _ h)))))))))))))))))))))))))))))))))))
theorem in_r25 : ∀ w ∈ wsL_law_r25, w ∈ big := fun _ h => List.mem_append_left _ (List.mem_append_left _ (List.mem_append_left _ (List.mem_append_left _ (List.mem_append_left _ (List.mem_append_left _ (List.mem_append_left _ (List.mem_append_left _ (List.mem_append_left _ (List.mem_append_left _ (List.mem_append_left _ (List.mem_append_left _ (List.mem_append_right _ (List.mem_append_right _ (List.mem_append_right _ (List.mem_append_right _ (List.mem_append_right _ (List.mem_append_right _ (List.mem_append_right _ (List.mem_append_right _ (List.mem_append_right _ (List.mem_append_right _ (List.mem_append_right _ (List.mem_append_right _ (List.mem_append_right _ (List.mem_append_right _ (List.mem_append_right _ (List.mem_append_right _ (List.mem_append_right _ (List.mem_append_right _ (List.mem_append_right _ (List.mem_append_right _ (List.mem_append_right _ (List.mem_append_right _ (List.mem_append_right _ (List.mem_append_right _ (List.mem_append_left _ h))))))))))))))))))))))))))))))))))))
theorem in_r26 : ∀ w ∈ wsL_law_r26, w ∈ big := fun _ h => List.mem_append_left _ (List.mem_append_left _ (List.mem_append_left _ (List.mem_append_left _ (List.mem_append_left _ (List.mem_append_left _ (List.mem_append_left _ (List.mem_append_left _ (List.mem_append_left _ (List.mem_append_left _ (List.mem_append_left _ (List.mem_append_left _ (List.mem_append_right _ (List.mem_append_right _ (List.mem_append_right _ (List.mem_append_right _ (List.mem_append_right _ (List.mem_append_right _ (List.mem_append_right _ (List.mem_append_right _ (List.mem_append_right _ (List.mem_append_right _ (List.mem_append_right _ (List.mem_append_right _ (List.mem_append_right _ (List.mem_append_right _ (List.mem_append_right _ (List.mem_append_right _ (List.mem_append_right _ (List.mem_append_right _ (List.mem_append_right _ (List.mem_append_right _ (List.mem_append_right _ (List.mem_append_right _ (List.mem_append_right _ (List.mem_append_right _ (List.mem_append_right _ (List.mem_append_left _ h)))))))))))))))))))))))))))))))))))))
theorem in_r27 : ∀ w ∈ wsL_law_r27, w ∈ big := fun _ h => List.mem_append_left _ (List.mem_append_left _ (List.mem_append_left _ (List.mem_append_left _ (List.mem_append_left _ (List.mem_append_left _ (List.mem_append_left _ (List.mem_append_left _ (List.mem_append_left _ (List.mem_append_left _ (List.mem_append_left _ (List.mem_append_left _ (List.mem_append_right _ (List.mem_append_right _ (List.mem_append_right _ (List.mem_append_right _ (List.mem_append_right _ (List.mem_append_right _ (List.mem_append_right _ (List.mem_append_right _ (List.mem_append_right _ (List.mem_append_right _ (List.mem_append_right _ (List.mem_append_right _ (List.mem_append_right _ (List.mem_append_right _ (List.mem_append_right _ (List.mem_append_right _ (List.mem_append_right _ (List.mem_append_right _ (List.mem_append_right _ (List.mem_append_right _ (List.mem_append_right _ (List.mem_append_right _ (List.mem_append_right _ (List.mem_append_right _ (List.mem_append_right _ (List.mem_append_right _ (List.mem_append_left _ h))))))))))))))))))))))))))))))))))))))
theorem in_r28 : ∀ w ∈ wsL_law_r28, w ∈ big := fun _ h => List.mem_append_left _ (List.mem_append_left _ (List.mem_append_left _ (List.mem_append_left _ (List.mem_append_left _ (List.mem_append_left _ (List.mem_append_left _ (List.mem_append_left _ (List.mem_append_left _ (List.mem_append_left _ (List.mem_append_left _ (List.mem_append_left _ (List.mem_append_right _ (List.mem_append_right _ (List.mem_append_right _ (List.mem_append_right _ (List.mem_append_right _ (List.mem_append_right _ (List.mem_append_right _ (List.mem_append_right _ (List.mem_append_right _ (List.mem_append_right _ (List.mem_append_right _ (List.mem_append_right _ (List.mem_append_right _ (List.mem_append_right _ (List.mem_append_right _ (List.mem_append_right _ (List.mem_append_right _ (List.mem_append_right _ (List.mem_append_right _ (List.mem_append_right _ (List.mem_append_right _ (List.mem_append_right _ (List.mem_append_right _ (List.mem_append_right _ (List.mem_append_right _ (List.mem_append_right _ (List.mem_append_right _ (List.mem_append_left _ h)))))))))))))))))))))))))))))))))))))))
theorem in_r29 : ∀ w ∈ wsL_law_r29, w ∈ big := fun _ h => List.mem_append_left _ (List.mem_append_left _ (List.mem_append_left _ (List.mem_append_left _ (List.mem_append_left _ (List.mem_append_left _ (List.mem_append_left _ (List.mem_append_left _ (List.mem_append_left _ (List.mem_append_left _ (List.mem_append_left _ (List.mem_append_left _ (List.mem_append_right _ (List.mem_append_right _ (List.mem_append_right _ (List.mem_append_right _ (List.mem_append_right _ (List.mem_append_right _ (List.mem_append_right _ (List.mem_append_right _ (List.mem_append_right _ (List.mem_append_right _ (List.mem_append_right _ (List.mem_append_right _ (List.mem_append_right _ (List.mem_append_right _ (List.mem_append_right _ (List.mem_append_right _ (List.mem_append_right _ (List.mem_append_right _ (List.mem_append_right _ (List.mem_append_right _ (List.mem_append_right _ (List.mem_append_right _ (List.mem_append_right _ (List.mem_append_right _ (List.mem_append_right _ (List.mem_append_right _ (List.mem_append_right _ (List.mem_append_right _ (List.mem_append_left _ h))))))))))))))))))))))))))))))))))))))))
theorem in_r30 : ∀ w ∈ wsL_law_r30, w ∈ big := fun _ h => List.mem_append_left _ (List.mem_append_left _ (List.mem_append_left _ (List.mem_append_left _ (List.mem_append_left _ (List.mem_append_left _ (List.mem_append_left _ (List.mem_append_left _ (List.mem_append_left _ (List.mem_append_left _ (List.mem_append_left _ (List.mem_append_left _ (List.mem_append_right _ (List.mem_append_right _ (List.mem_append_right _ (List.mem_append_right _ (List.mem_append_right _ (List.mem_append_right _ (List.mem_append_right _ (List.mem_append_right _ (List.mem_append_right _ (List.mem_append_right _ (List.mem_append_right _ (List.mem_append_right _ (List.mem_append_right _ (List.mem_append_right _ (List.mem_append_right _ (List.mem_append_right _ (List.mem_append_right _ (List.mem_append_right _ (List.mem_append_right _ (List.mem_append_right _ (List.mem_append_right _ (List.mem_append_right _ (List.mem_append_right _ (List.mem_append_right _ (List.mem_append_right _ (List.mem_append_right _ (List.mem_append_right _ (List.mem_append_right _ (List.mem_append_right _ (List.mem_append_left _ h)))))))))))))))))))))))))))))))))))))))))
theorem in_r31 : ∀ w ∈ wsL_law_r31, w ∈ big := fun _ h => List.mem_append_left _ (List.mem_append_left _ (List.mem_append_left _ (List.mem_append_left _ (List.mem_append_left _ (List.mem_append_left _ (List.mem_append_left _ (List.mem_append_left _ (List.mem_append_left _ (List.mem_append_left _ (List.mem_append_left _ (List.mem_append_left _ (List.mem_append_right _ (List.mem_append_right _ (List.mem_append_right _ (List.mem_append_right _ (List.mem_append_right _ (List.mem_append_right _ (List.mem_append_right _ (List.mem_append_right _ (List.mem_append_right _ (List.mem_append_right _ (List.mem_append_right _ (List.mem_append_right _ (List.mem_append_right _ (List.mem_append_right _ (List.mem_append_right _ (List.mem_append_right _ (List.mem_append_right _ (List.mem_append_right _ (List.mem_append_right _ (List.mem_append_right _ (List.mem_append_right _ (List.mem_append_right _ (List.mem_append_right _ (List.mem_append_right _ (List.mem_append_right _ (List.mem_append_right _ (List.mem_append_right _ (List.mem_append_right _ (List.mem_append_right _ (List.mem_append_right _ (List.mem_append_left _ h))))))))))))))))))))))))))))))))))))))))))
theorem in_r32 : ∀ w ∈ wsL_law_r32, w ∈ big := fun _ h => List.mem_append_left _ (List.mem_append_left _ (List.mem_append_left _ (List.mem_append_left _ (List.mem_append_left _ (List.mem_append_left _ (List.mem_append_left _ (List.mem_append_left _ (List.mem_append_left _ (List.mem_append_left _ (List.mem_append_left _ (List.mem_append_left _ (List.mem_append_right _ (List.mem_append_right _ (List.mem_append_right _ (List.mem_append_right _ (List.mem_append_right _ (List.mem_append_right _ (List.mem_append_right _ (List.mem_append_right _ (List.mem_append_right _ (List.mem_append_right _ (List.mem_append_right _ (List.mem_append_right _ (List.mem_append_right _ (List.mem_append_right _ (List.mem_append_right _ (List.mem_append_right _ (List.mem_append_right _ (List.mem_append_right _ (List.mem_append_right _ (List.mem_append_right _ (List.mem_append_right _ (List.mem_append_right _ (List.mem_append_right _ (List.mem_append_right _ (List.mem_append_right _ (List.mem_append_right _ (List.mem_append_right _ (List.mem_append_right _ (List.mem_append_right _ (List.mem_append_right _ (List.mem_append_right _ (List.mem_append_left _ h)))))))))))))))))))))))))))))))))))))))))))
theorem in_r33 : ∀ w ∈ wsL_law_r33, w ∈ big := fun _ h => List.mem_append_left _ (List.mem_append_left _ (List.mem_append_left _ (List.mem_append_left _ (List.mem_append_left _ (List.mem_append_left _ (List.mem_append_left _ (List.mem_append_left _ (List.mem_append_left _ (List.mem_append_left _ (List.mem_append_left _ (List.mem_append_left _ (List.mem_append_right _ (List.mem_append_right _ (List.mem_append_right _ (List.mem_append_right _ (List.mem_append_right _ (List.mem_append_right _ (List.mem_append_right _ (List.mem_append_right _ (List.mem_append_right _ (List.mem_append_right _ (List.mem_append_right _ (List.mem_append_right _ (List.mem_append_right _ (List.mem_append_right _ (List.mem_append_right _ (List.mem_append_right _ (List.mem_append_right _ (List.mem_append_right _ (List.mem_append_right _ (List.mem_append_right _ (List.mem_append_right _ (List.mem_append_right _ (List.mem_append_right _ (List.mem_append_right _ (List.mem_append_right _ (List.mem_append_right _ (List.mem_append_right _ (List.mem_append_right _ (List.mem_append_right _ (List.mem_append_right _ (List.mem_append_right _ (List.mem_append_right _ (List.mem_append_left _ h))))))))))))))))))))))))))))))))))))))))))))
theorem in_r34 : ∀ w ∈ wsL_law_r34, w ∈ big := fun _ h => List.mem_append_left _ (List.mem_append_left _ (List.mem_append_left _ (List.mem_append_left _ (List.mem_append_left _ (List.mem_append_left _ (List.mem_append_left _ (List.mem_append_left _ (List.mem_append_left _ (List.mem_append_left _ (List.mem_append_left _ (List.mem_append_left _ (List.mem_append_right _ (List.mem_append_right _ (List.mem_append_right _ (List.mem_append_right _ (List.mem_append_right _ (List.mem_append_right _ (List.mem_append_right _ (List.mem_append_right _ (List.mem_append_right _ (List.mem_append_right _ (List.mem_append_right _ (List.mem_append_right _ (List.mem_append_right _ (List.mem_append_right _ (List.mem_append_right _ (List.mem_append_right _ (List.mem_append_right _ (List.mem_append_right _ (List.mem_append_right _ (List.mem_append_right _ (List.mem_append_right _ (List.mem_append_right _ (List.mem_append_right _ (List.mem_append_right _ (List.mem_append_right _ (List.mem_append_right _ (List.mem_append_right _ (List.mem_append_right _ (List.mem_append_right _ (List.mem_append_right _ (List.mem_append_right _ (List.mem_append_right _ (List.mem_append_right _ (List.mem_append_left _ h)))))))))))))))))))))))))))))))))))))))))))))
theorem in_r35 : ∀ w ∈ wsL_law_r35, w ∈ big := fun _ h => List.mem_append_left _ (List.mem_append_left _ (List.mem_append_left _ (List.mem_append_left _ (List.mem_append_left _ (List.mem_append_left _ (List.mem_append_left _ (List.mem_append_left _ (List.mem_append_left _ (List.mem_append_left _ (List.mem_append_left _ (List.mem_append_left _ (List.mem_append_right _ (List.mem_append_right _ (List.mem_append_right _ (List.mem_append_right _ (List.mem_append_right _ (List.mem_append_right _ (List.mem_append_right _ (List.mem_append_right _ (List.mem_append_right _ (List.mem_append_right _ (List.mem_append_right _ (List.mem_append_right _ (List.mem_append_right _ (List.mem_append_right _ (List.mem_append_right _ (List.mem_append_right _ (List.mem_append_right _ (List.mem_append_right _ (List.mem_append_right _ (List.mem_append_right _ (List.mem_append_right _ (List.mem_append_right _ (List.mem_append_right _ (List.mem_append_right _ (List.mem_append_right _ (List.mem_append_right _ (List.mem_append_right _ (List.mem_append_right _ (List.mem_append_right _ (List.mem_append_right _ (List.mem_append_right _ (List.mem_append_right _ (List.mem_append_right _ (List.mem_append_right _ (List.mem_append_left _ h))))))))))))))))))))))))))))))))))))))))))))))
theorem in_r36 : ∀ w ∈ wsL_law_r36, w ∈ big := fun _ h => List.mem_append_left _ (List.mem_append_left _ (List.mem_append_left _ (List.mem_append_left _ (List.mem_append_left _ (List.mem_append_left _ (List.mem_append_left _ (List.mem_append_left _ (List.mem_append_left _ (List.mem_append_left _ (List.mem_append_left _ (List.mem_append_left _ (List.mem_append_right _ (List.mem_append_right _ (List.mem_append_right _ (List.mem_append_right _ (List.mem_append_right _ (List.mem_append_right _ (List.mem_append_right _ (List.mem_append_right _ (List.mem_append_right _ (List.mem_append_right _ (List.mem_append_right _ (List.mem_append_right _ (List.mem_append_right _ (List.mem_append_right _ (List.mem_append_right _ (List.mem_append_right _ (List.mem_append_right _ (List.mem_append_right _ (List.mem_append_right _ (List.mem_append_right _ (List.mem_append_right _ (List.mem_append_right _ (List.mem_append_right _ (List.mem_append_right _ (List.mem_append_right _ (List.mem_append_right _ (List.mem_append_right _ (List.mem_append_right _ (List.mem_append_right _ (List.mem_append_right _ (List.mem_append_right _ (List.mem_append_right _ (List.mem_append_right _ (List.mem_append_right _ (List.mem_append_right _ (List.mem_append_left _ h)))))))))))))))))))))))))))))))))))))))))))))))
theorem in_r37 : ∀ w ∈ wsL_law_r37, w ∈ big := fun _ h => List.mem_append_left _ (List.mem_append_left _ (List.mem_append_left _ (List.mem_append_left _ (List.mem_append_left _ (List.mem_append_left _ (List.mem_append_left _ (List.mem_append_left _ (List.mem_append_left _ (List.mem_append_left _ (List.mem_append_left _ (List.mem_append_left _ (List.mem_append_right _ (List.mem_append_right _ (List.mem_append_right _ (List.mem_append_right _ (List.mem_append_right _ (List.mem_append_right _ (List.mem_append_right _ (List.mem_append_right _ (List.mem_append_right _ (List.mem_append_right _ (List.mem_append_right _ (List.mem_append_right _ (List.mem_append_right _ (List.mem_append_right _ (List.mem_append_right _ (List.mem_append_right _ (List.mem_append_right _ (List.mem_append_right _ (List.mem_append_right _ (List.mem_append_right _ (List.mem_append_right _ (List.mem_append_right _ (List.mem_append_right _ (List.mem_append_right _ (List.mem_append_right _ (List.mem_append_right _ (List.mem_append_right _ (List.mem_append_right _ (List.mem_append_right _ (List.mem_append_right _ (List.mem_append_right _ (List.mem_append_right _ (List.mem_append_right _ (List.mem_append_right _ (List.mem_append_right _ (List.mem_append_right _ (List.mem_append_left _ h))))))))))))))))))))))))))))))))))))))))))))))))
theorem in_r38 : ∀ w ∈ wsL_law_r38, w ∈ big := fun _ h => List.mem_append_left _ (List.mem_append_left _ (List.mem_append_left _ (List.mem_append_left _ (List.mem_append_left _ (List.mem_append_left _ (List.mem_append_left _ (List.mem_append_left _ (List.mem_append_left _ (List.mem_append_left _ (List.mem_append_left _ (List.mem_append_left _ (List.mem_append_right _ (List.mem_append_right _ (List.mem_append_right _ (List.mem_append_right _ (List.mem_append_right _ (List.mem_append_right _ (List.mem_append_right _ (List.mem_append_right _ (List.mem_append_right _ (List.mem_append_right _ (List.mem_append_right _ (List.mem_append_right _ (List.mem_append_right _ (List.mem_append_right _ (List.mem_append_right _ (List.mem_append_right _ (List.mem_append_right _ (List.mem_append_right _ (List.mem_append_right _ (List.mem_append_right _ (List.mem_append_right _ (List.mem_append_right _ (List.mem_append_right _ (List.mem_append_right _ (List.mem_append_right _ (List.mem_append_right _ (List.mem_append_right _ (List.mem_append_right _ (List.mem_append_right _ (List.mem_append_right _ (List.mem_append_right _ (List.mem_append_right _ (List.mem_append_right _ (List.mem_append_right _ (List.mem_append_right _ (List.mem_append_right _ (List.mem_append_right _ (List.mem_append_left _ h)))))))))))))))))))))))))))))))))))))))))))))))))
theorem in_r39 : ∀ w ∈ wsL_law_r39, w ∈ big := fun _ h => List.mem_append_left _ (List.mem_append_left _ (List.mem_append_left _ (List.mem_append_left _ (List.mem_append_left _ (List.mem_append_left _ (List.mem_append_left _ (List.mem_append_left _ (List.mem_append_left _ (List.mem_append_left _ (List.mem_append_left _ (List.mem_append_left _ (List.mem_append_right _ (List.mem_append_right _ (List.mem_append_right _ (List.mem_append_right _ (List.mem_append_right _ (List.mem_append_right _ (List.mem_append_right _ (List.mem_append_right _ (List.mem_append_right _ (List.mem_append_right _ (List.mem_append_right _ (List.mem_append_right _ (List.mem_append_right _ (List.mem_append_right _ (List.mem_append_right _ (List.mem_append_right _ (List.mem_append_right _ (List.mem_append_right _ (List.mem_append_right _ (List.mem_append_right _ (List.mem_append_right _ (List.mem_append_right _ (List.mem_append_right _ (List.mem_append_right _ (List.mem_append_right _ (List.mem_append_right _ (List.mem_append_right _ (List.mem_append_right _ (List.mem_append_right _ (List.mem_append_right _ (List.mem_append_right _ (List.mem_append_right _ (List.mem_append_right _ (List.mem_append_right _ (List.mem_append_right _ (List.mem_append_right _ (List.mem_append_right _ (List.mem_append_right _ (h))))))))))))))))))))))))))))))))))))))))))))))))))
theorem ok_J6_bitCount_0f7a4 : Cond.code yJ6_bitCount_0f7a4 cJ6_bitCount_0f7a4 1 (some .int) ∈ big := (in_r9 _ (List.mem_of_getElem? (i := 10) rfl))
abbrev wyJ6_bitCount_0f7a4 : List Cond := .code yJ6_bitCount_0f7a4 cJ6_bitCount_0f7a4 1 (some .int) :: big
theorem ok_X0_changePaths : Cond.code yX0_changePaths cX0_changePaths 4 (some .int) ∈ big := (in_r37 _ (List.mem_of_getElem? (i := 3) rfl))
abbrev wyX0_changePaths : List Cond := .code yX0_changePaths cX0_changePaths 4 (some .int) :: big
theorem ok_X0_everHad : Cond.code yX0_everHad cX0_everHad 5 (some .boolean) ∈ big := (in_r38 _ (List.mem_of_getElem? (i := 21) rfl))
abbrev wyX0_everHad : List Cond := .code yX0_everHad cX0_everHad 5 (some .boolean) :: big
theorem ok_X0_init : Cond.code yX0_init cX0_init 1 none ∈ big := (in_r6 _ (List.mem_of_getElem? (i := 17) rfl))
abbrev wyX0_init : List Cond := .code yX0_init cX0_init 1 none :: big
theorem ok_X0_lastHue : Cond.code yX0_lastHue cX0_lastHue 7 (some .int) ∈ big := (in_r38 _ (List.mem_of_getElem? (i := 16) rfl))
abbrev wyX0_lastHue : List Cond := .code yX0_lastHue cX0_lastHue 7 (some .int) :: big
theorem ok_X0_ownersOf : Cond.code yX0_ownersOf cX0_ownersOf 9 (some .int) ∈ big := (in_r38 _ (List.mem_of_getElem? (i := 12) rfl))
abbrev wyX0_ownersOf : List Cond := .code yX0_ownersOf cX0_ownersOf 9 (some .int) :: big
theorem ok_X0_tellColour : Cond.code yX0_tellColour cX0_tellColour 4 (some .int) ∈ big := (in_r37 _ (List.mem_of_getElem? (i := 22) rfl))
abbrev wyX0_tellColour : List Cond := .code yX0_tellColour cX0_tellColour 4 (some .int) :: big
theorem ok_X0_toldColours : Cond.code yX0_toldColours cX0_toldColours 1 (some .int) ∈ big := (in_r37 _ (List.mem_of_getElem? (i := 17) rfl))
abbrev wyX0_toldColours : List Cond := .code yX0_toldColours cX0_toldColours 1 (some .int) :: big
theorem ok_X10_add : Cond.code yX10_add cX10_add 5 (some .int) ∈ big := (in_r31 _ (List.mem_of_getElem? (i := 0) rfl))
abbrev wyX10_add : List Cond := .code yX10_add cX10_add 5 (some .int) :: big
theorem ok_X10_at : Cond.code yX10_at cX10_at 3 (some .int) ∈ big := (in_r16 _ (List.mem_of_getElem? (i := 5) rfl))
abbrev wyX10_at : List Cond := .code yX10_at cX10_at 3 (some .int) :: big
theorem ok_X10_branch : Cond.code yX10_branch cX10_branch 2 (some .int) ∈ big := (in_r33 _ (List.mem_of_getElem? (i := 8) rfl))
abbrev wyX10_branch : List Cond := .code yX10_branch cX10_branch 2 (some .int) :: big
theorem ok_X10_breaks : Cond.code yX10_breaks cX10_breaks 5 (some .int) ∈ big := (in_r32 _ (List.mem_of_getElem? (i := 6) rfl))
abbrev wyX10_breaks : List Cond := .code yX10_breaks cX10_breaks 5 (some .int) :: big
theorem ok_X10_club : Cond.code yX10_club cX10_club 4 (some .int) ∈ big := (in_r37 _ (List.mem_of_getElem? (i := 9) rfl))
abbrev wyX10_club : List Cond := .code yX10_club cX10_club 4 (some .int) :: big
theorem ok_X10_colour : Cond.code yX10_colour cX10_colour 4 (some .int) ∈ big := (in_r38 _ (List.mem_of_getElem? (i := 3) rfl))
abbrev wyX10_colour : List Cond := .code yX10_colour cX10_colour 4 (some .int) :: big
theorem ok_X10_colourTo : Cond.code yX10_colourTo cX10_colourTo 7 (some .int) ∈ big := (in_r39 _ (List.mem_of_getElem? (i := 5) rfl))
abbrev wyX10_colourTo : List Cond := .code yX10_colourTo cX10_colourTo 7 (some .int) :: big
theorem ok_X10_count : Cond.code yX10_count cX10_count 4 (some .int) ∈ big := (in_r39 _ (List.mem_of_getElem? (i := 17) rfl))
abbrev wyX10_count : List Cond := .code yX10_count cX10_count 4 (some .int) :: big
theorem ok_X10_days : Cond.code yX10_days cX10_days 4 (some .int) ∈ big := (in_r13 _ (List.mem_of_getElem? (i := 3) rfl))
abbrev wyX10_days : List Cond := .code yX10_days cX10_days 4 (some .int) :: big
theorem ok_X10_doCross : Cond.code yX10_doCross cX10_doCross 6 (some .boolean) ∈ big := (in_r32 _ (List.mem_of_getElem? (i := 14) rfl))
abbrev wyX10_doCross : List Cond := .code yX10_doCross cX10_doCross 6 (some .boolean) :: big
theorem ok_X10_findSplit : Cond.code yX10_findSplit cX10_findSplit 8 (some .int) ∈ big := (in_r35 _ (List.mem_of_getElem? (i := 7) rfl))
abbrev wyX10_findSplit : List Cond := .code yX10_findSplit cX10_findSplit 8 (some .int) :: big
theorem ok_X10_findWays : Cond.code yX10_findWays cX10_findWays 7 none ∈ big := (in_r24 _ (List.mem_of_getElem? (i := 4) rfl))
abbrev wyX10_findWays : List Cond := .code yX10_findWays cX10_findWays 7 none :: big
theorem ok_X10_forget : Cond.code yX10_forget cX10_forget 2 (some .int) ∈ big := (in_r22 _ (List.mem_of_getElem? (i := 13) rfl))
abbrev wyX10_forget : List Cond := .code yX10_forget cX10_forget 2 (some .int) :: big
theorem ok_X10_foundAt : Cond.code yX10_foundAt cX10_foundAt 7 (some .int) ∈ big := (in_r35 _ (List.mem_of_getElem? (i := 11) rfl))
abbrev wyX10_foundAt : List Cond := .code yX10_foundAt cX10_foundAt 7 (some .int) :: big
theorem ok_X10_goWalk : Cond.code yX10_goWalk cX10_goWalk 6 none ∈ big := (in_r20 _ (List.mem_of_getElem? (i := 9) rfl))
abbrev wyX10_goWalk : List Cond := .code yX10_goWalk cX10_goWalk 6 none :: big
theorem ok_X10_goesBy : Cond.code yX10_goesBy cX10_goesBy 9 (some .int) ∈ big := (in_r20 _ (List.mem_of_getElem? (i := 13) rfl))
abbrev wyX10_goesBy : List Cond := .code yX10_goesBy cX10_goesBy 9 (some .int) :: big
theorem ok_X10_houndOf : Cond.code yX10_houndOf cX10_houndOf 6 (some .int) ∈ big := (in_r35 _ (List.mem_of_getElem? (i := 15) rfl))
abbrev wyX10_houndOf : List Cond := .code yX10_houndOf cX10_houndOf 6 (some .int) :: big
theorem ok_X10_in : Cond.code yX10_in cX10_in 3 (some .boolean) ∈ big := (in_r10 _ (List.mem_of_getElem? (i := 23) rfl))
abbrev wyX10_in : List Cond := .code yX10_in cX10_in 3 (some .boolean) :: big
theorem ok_X10_init : Cond.code yX10_init cX10_init 1 none ∈ big := (in_r7 _ (List.mem_of_getElem? (i := 4) rfl))
abbrev wyX10_init : List Cond := .code yX10_init cX10_init 1 none :: big
theorem ok_X10_isAt : Cond.code yX10_isAt cX10_isAt 3 (some .boolean) ∈ big := (in_r11 _ (List.mem_of_getElem? (i := 7) rfl))
abbrev wyX10_isAt : List Cond := .code yX10_isAt cX10_isAt 3 (some .boolean) :: big
theorem ok_X10_isHarmless : Cond.code yX10_isHarmless cX10_isHarmless 3 (some .boolean) ∈ big := (in_r28 _ (List.mem_of_getElem? (i := 19) rfl))
abbrev wyX10_isHarmless : List Cond := .code yX10_isHarmless cX10_isHarmless 3 (some .boolean) :: big
theorem ok_X10_isNeeded : Cond.code yX10_isNeeded cX10_isNeeded 8 (some .boolean) ∈ big := (in_r28 _ (List.mem_of_getElem? (i := 15) rfl))
abbrev wyX10_isNeeded : List Cond := .code yX10_isNeeded cX10_isNeeded 8 (some .boolean) :: big
theorem ok_X10_isNoted : Cond.code yX10_isNoted cX10_isNoted 7 (some .boolean) ∈ big := (in_r24 _ (List.mem_of_getElem? (i := 8) rfl))
abbrev wyX10_isNoted : List Cond := .code yX10_isNoted cX10_isNoted 7 (some .boolean) :: big
theorem ok_X10_isOnRoute : Cond.code yX10_isOnRoute cX10_isOnRoute 4 (some .boolean) ∈ big := (in_r32 _ (List.mem_of_getElem? (i := 10) rfl))
abbrev wyX10_isOnRoute : List Cond := .code yX10_isOnRoute cX10_isOnRoute 4 (some .boolean) :: big
theorem ok_X10_isPlace : Cond.code yX10_isPlace cX10_isPlace 1 (some .boolean) ∈ big := (in_r10 _ (List.mem_of_getElem? (i := 20) rfl))
abbrev wyX10_isPlace : List Cond := .code yX10_isPlace cX10_isPlace 1 (some .boolean) :: big
theorem ok_X10_joins : Cond.code yX10_joins cX10_joins 5 (some .int) ∈ big := (in_r11 _ (List.mem_of_getElem? (i := 3) rfl))
abbrev wyX10_joins : List Cond := .code yX10_joins cX10_joins 5 (some .int) :: big
theorem ok_X10_mayGo : Cond.code yX10_mayGo cX10_mayGo 5 (some .boolean) ∈ big := (in_r24 _ (List.mem_of_getElem? (i := 12) rfl))
abbrev wyX10_mayGo : List Cond := .code yX10_mayGo cX10_mayGo 5 (some .boolean) :: big
theorem ok_X10_needed : Cond.code yX10_needed cX10_needed 6 (some .int) ∈ big := (in_r28 _ (List.mem_of_getElem? (i := 11) rfl))
abbrev wyX10_needed : List Cond := .code yX10_needed cX10_needed 6 (some .int) :: big
theorem ok_X10_note : Cond.code yX10_note cX10_note 2 (some .int) ∈ big := (in_r21 _ (List.mem_of_getElem? (i := 23) rfl))
abbrev wyX10_note : List Cond := .code yX10_note cX10_note 2 (some .int) :: big
theorem ok_X10_only : Cond.code yX10_only cX10_only 9 (some .int) ∈ big := (in_r25 _ (List.mem_of_getElem? (i := 10) rfl))
abbrev wyX10_only : List Cond := .code yX10_only cX10_only 9 (some .int) :: big
theorem ok_X10_otherEnd : Cond.code yX10_otherEnd cX10_otherEnd 3 (some .int) ∈ big := (in_r20 _ (List.mem_of_getElem? (i := 17) rfl))
abbrev wyX10_otherEnd : List Cond := .code yX10_otherEnd cX10_otherEnd 3 (some .int) :: big
theorem ok_X10_path : Cond.code yX10_path cX10_path 4 (some .int) ∈ big := (in_r10 _ (List.mem_of_getElem? (i := 16) rfl))
abbrev wyX10_path : List Cond := .code yX10_path cX10_path 4 (some .int) :: big
theorem ok_X10_pathsAt : Cond.code yX10_pathsAt cX10_pathsAt 4 (some .int) ∈ big := (in_r14 _ (List.mem_of_getElem? (i := 14) rfl))
abbrev wyX10_pathsAt : List Cond := .code yX10_pathsAt cX10_pathsAt 4 (some .int) :: big
theorem ok_X10_route : Cond.code yX10_route cX10_route 3 (some .int) ∈ big := (in_r26 _ (List.mem_of_getElem? (i := 20) rfl))
abbrev wyX10_route : List Cond := .code yX10_route cX10_route 3 (some .int) :: big
theorem ok_X10_seen : Cond.code yX10_seen cX10_seen 3 (some .int) ∈ big := (in_r18 _ (List.mem_of_getElem? (i := 0) rfl))
abbrev wyX10_seen : List Cond := .code yX10_seen cX10_seen 3 (some .int) :: big
theorem ok_X10_seenBy : Cond.code yX10_seenBy cX10_seenBy 6 (some .int) ∈ big := (in_r18 _ (List.mem_of_getElem? (i := 4) rfl))
abbrev wyX10_seenBy : List Cond := .code yX10_seenBy cX10_seenBy 6 (some .int) :: big
theorem ok_X10_set : Cond.code yX10_set cX10_set 4 (some .int) ∈ big := (in_r17 _ (List.mem_of_getElem? (i := 1) rfl))
abbrev wyX10_set : List Cond := .code yX10_set cX10_set 4 (some .int) :: big
theorem ok_X10_sign : Cond.code yX10_sign cX10_sign 7 (some .int) ∈ big := (in_r14 _ (List.mem_of_getElem? (i := 10) rfl))
abbrev wyX10_sign : List Cond := .code yX10_sign cX10_sign 7 (some .int) :: big
theorem ok_X10_split : Cond.code yX10_split cX10_split 5 (some .int) ∈ big := (in_r36 _ (List.mem_of_getElem? (i := 12) rfl))
abbrev wyX10_split : List Cond := .code yX10_split cX10_split 5 (some .int) :: big
theorem ok_X10_trail : Cond.code yX10_trail cX10_trail 3 (some .int) ∈ big := (in_r30 _ (List.mem_of_getElem? (i := 0) rfl))
abbrev wyX10_trail : List Cond := .code yX10_trail cX10_trail 3 (some .int) :: big
theorem ok_X10_turn : Cond.code yX10_turn cX10_turn 4 (some .int) ∈ big := (in_r15 _ (List.mem_of_getElem? (i := 16) rfl))
abbrev wyX10_turn : List Cond := .code yX10_turn cX10_turn 4 (some .int) :: big
theorem ok_X10_unbranch : Cond.code yX10_unbranch cX10_unbranch 2 (some .int) ∈ big := (in_r33 _ (List.mem_of_getElem? (i := 22) rfl))
abbrev wyX10_unbranch : List Cond := .code yX10_unbranch cX10_unbranch 2 (some .int) :: big
theorem ok_X10_unroute : Cond.code yX10_unroute cX10_unroute 2 (some .int) ∈ big := (in_r27 _ (List.mem_of_getElem? (i := 10) rfl))
abbrev wyX10_unroute : List Cond := .code yX10_unroute cX10_unroute 2 (some .int) :: big
theorem ok_X10_walk : Cond.code yX10_walk cX10_walk 3 (some .int) ∈ big := (in_r20 _ (List.mem_of_getElem? (i := 2) rfl))
abbrev wyX10_walk : List Cond := .code yX10_walk cX10_walk 3 (some .int) :: big
theorem ok_X10_walked : Cond.code yX10_walked cX10_walked 3 (some .int) ∈ big := (in_r21 _ (List.mem_of_getElem? (i := 5) rfl))
abbrev wyX10_walked : List Cond := .code yX10_walked cX10_walked 3 (some .int) :: big
theorem ok_X10_ways : Cond.code yX10_ways cX10_ways 2 (some .int) ∈ big := (in_r24 _ (List.mem_of_getElem? (i := 0) rfl))
abbrev wyX10_ways : List Cond := .code yX10_ways cX10_ways 2 (some .int) :: big
theorem ok_X10_weather : Cond.code yX10_weather cX10_weather 3 (some .int) ∈ big := (in_r11 _ (List.mem_of_getElem? (i := 19) rfl))
abbrev wyX10_weather : List Cond := .code yX10_weather cX10_weather 3 (some .int) :: big
theorem ok_X10_whose : Cond.code yX10_whose cX10_whose 8 (some .int) ∈ big := (in_r39 _ (List.mem_of_getElem? (i := 1) rfl))
abbrev wyX10_whose : List Cond := .code yX10_whose cX10_whose 8 (some .int) :: big
theorem ok_X10_worst : Cond.code yX10_worst cX10_worst 2 (some .int) ∈ big := (in_r35 _ (List.mem_of_getElem? (i := 2) rfl))
abbrev wyX10_worst : List Cond := .code yX10_worst cX10_worst 2 (some .int) :: big
theorem ok_X1_branchCount : Cond.code yX1_branchCount cX1_branchCount 1 (some .int) ∈ big := (in_r32 _ (List.mem_of_getElem? (i := 22) rfl))
abbrev wyX1_branchCount : List Cond := .code yX1_branchCount cX1_branchCount 1 (some .int) :: big
theorem ok_X1_comesBefore : Cond.code yX1_comesBefore cX1_comesBefore 4 (some .boolean) ∈ big := (in_r36 _ (List.mem_of_getElem? (i := 8) rfl))
abbrev wyX1_comesBefore : List Cond := .code yX1_comesBefore cX1_comesBefore 4 (some .boolean) :: big
theorem ok_X1_dropAll : Cond.code yX1_dropAll cX1_dropAll 1 (some .int) ∈ big := (in_r33 _ (List.mem_of_getElem? (i := 17) rfl))
abbrev wyX1_dropAll : List Cond := .code yX1_dropAll cX1_dropAll 1 (some .int) :: big
theorem ok_X1_findBestSplit : Cond.code yX1_findBestSplit cX1_findBestSplit 5 (some .int) ∈ big := (in_r34 _ (List.mem_of_getElem? (i := 6) rfl))
abbrev wyX1_findBestSplit : List Cond := .code yX1_findBestSplit cX1_findBestSplit 5 (some .int) :: big
theorem ok_X1_grow : Cond.code yX1_grow cX1_grow 2 (some .int) ∈ big := (in_r33 _ (List.mem_of_getElem? (i := 3) rfl))
abbrev wyX1_grow : List Cond := .code yX1_grow cX1_grow 2 (some .int) :: big
theorem ok_X1_houndOf : Cond.code yX1_houndOf cX1_houndOf 2 (some .int) ∈ big := (in_r35 _ (List.mem_of_getElem? (i := 23) rfl))
abbrev wyX1_houndOf : List Cond := .code yX1_houndOf cX1_houndOf 2 (some .int) :: big
theorem ok_X1_init : Cond.code yX1_init cX1_init 1 none ∈ big := (in_r6 _ (List.mem_of_getElem? (i := 8) rfl))
abbrev wyX1_init : List Cond := .code yX1_init cX1_init 1 none :: big
theorem ok_X1_keepTried : Cond.code yX1_keepTried cX1_keepTried 2 none ∈ big := (in_r34 _ (List.mem_of_getElem? (i := 18) rfl))
abbrev wyX1_keepTried : List Cond := .code yX1_keepTried cX1_keepTried 2 none :: big
theorem ok_X1_takeNextSplit : Cond.code yX1_takeNextSplit cX1_takeNextSplit 4 (some .boolean) ∈ big := (in_r34 _ (List.mem_of_getElem? (i := 22) rfl))
abbrev wyX1_takeNextSplit : List Cond := .code yX1_takeNextSplit cX1_takeNextSplit 4 (some .boolean) :: big
theorem ok_X1_timeOf : Cond.code yX1_timeOf cX1_timeOf 4 (some .int) ∈ big := (in_r36 _ (List.mem_of_getElem? (i := 3) rfl))
abbrev wyX1_timeOf : List Cond := .code yX1_timeOf cX1_timeOf 4 (some .int) :: big
theorem ok_X1_worstTime : Cond.code yX1_worstTime cX1_worstTime 8 (some .int) ∈ big := (in_r34 _ (List.mem_of_getElem? (i := 12) rfl))
abbrev wyX1_worstTime : List Cond := .code yX1_worstTime cX1_worstTime 8 (some .int) :: big
theorem ok_X2_allPaths : Cond.code yX2_allPaths cX2_allPaths 1 (some .int) ∈ big := (in_r36 _ (List.mem_of_getElem? (i := 23) rfl))
abbrev wyX2_allPaths : List Cond := .code yX2_allPaths cX2_allPaths 1 (some .int) :: big
theorem ok_X2_arcFrom : Cond.code yX2_arcFrom cX2_arcFrom 3 (some .int) ∈ big := (in_r19 _ (List.mem_of_getElem? (i := 11) rfl))
abbrev wyX2_arcFrom : List Cond := .code yX2_arcFrom cX2_arcFrom 3 (some .int) :: big
theorem ok_X2_endOf : Cond.code yX2_endOf cX2_endOf 2 (some .int) ∈ big := (in_r19 _ (List.mem_of_getElem? (i := 15) rfl))
abbrev wyX2_endOf : List Cond := .code yX2_endOf cX2_endOf 2 (some .int) :: big
theorem ok_X2_init : Cond.code yX2_init cX2_init 1 none ∈ big := (in_r2 _ (List.mem_of_getElem? (i := 21) rfl))
abbrev wyX2_init : List Cond := .code yX2_init cX2_init 1 none :: big
theorem ok_X2_join : Cond.code yX2_join cX2_join 5 (some .int) ∈ big := (in_r10 _ (List.mem_of_getElem? (i := 1) rfl))
abbrev wyX2_join : List Cond := .code yX2_join cX2_join 5 (some .int) :: big
theorem ok_X2_joining : Cond.code yX2_joining cX2_joining 4 (some .int) ∈ big := (in_r8 _ (List.mem_of_getElem? (i := 22) rfl))
abbrev wyX2_joining : List Cond := .code yX2_joining cX2_joining 4 (some .int) :: big
theorem ok_X2_lengthOf : Cond.code yX2_lengthOf cX2_lengthOf 2 (some .int) ∈ big := (in_r17 _ (List.mem_of_getElem? (i := 20) rfl))
abbrev wyX2_lengthOf : List Cond := .code yX2_lengthOf cX2_lengthOf 2 (some .int) :: big
theorem ok_X2_otherEnd : Cond.code yX2_otherEnd cX2_otherEnd 3 (some .int) ∈ big := (in_r25 _ (List.mem_of_getElem? (i := 4) rfl))
abbrev wyX2_otherEnd : List Cond := .code yX2_otherEnd cX2_otherEnd 3 (some .int) :: big
theorem ok_X2_pathCount : Cond.code yX2_pathCount cX2_pathCount 1 (some .int) ∈ big := (in_r9 _ (List.mem_of_getElem? (i := 17) rfl))
abbrev wyX2_pathCount : List Cond := .code yX2_pathCount cX2_pathCount 1 (some .int) :: big
theorem ok_X2_pathsAt : Cond.code yX2_pathsAt cX2_pathsAt 2 (some .int) ∈ big := (in_r9 _ (List.mem_of_getElem? (i := 2) rfl))
abbrev wyX2_pathsAt : List Cond := .code yX2_pathsAt cX2_pathsAt 2 (some .int) :: big
theorem ok_X2_touches : Cond.code yX2_touches cX2_touches 3 (some .boolean) ∈ big := (in_r13 _ (List.mem_of_getElem? (i := 16) rfl))
abbrev wyX2_touches : List Cond := .code yX2_touches cX2_touches 3 (some .boolean) :: big
theorem ok_X3_dropAll : Cond.code yX3_dropAll cX3_dropAll 1 (some .int) ∈ big := (in_r22 _ (List.mem_of_getElem? (i := 8) rfl))
abbrev wyX3_dropAll : List Cond := .code yX3_dropAll cX3_dropAll 1 (some .int) :: big
theorem ok_X3_exitsFrom : Cond.code yX3_exitsFrom cX3_exitsFrom 4 (some .int) ∈ big := (in_r23 _ (List.mem_of_getElem? (i := 13) rfl))
abbrev wyX3_exitsFrom : List Cond := .code yX3_exitsFrom cX3_exitsFrom 4 (some .int) :: big
theorem ok_X3_init : Cond.code yX3_init cX3_init 3 none ∈ big := (in_r4 _ (List.mem_of_getElem? (i := 23) rfl))
abbrev wyX3_init : List Cond := .code yX3_init cX3_init 3 none :: big
theorem ok_X3_noteCount : Cond.code yX3_noteCount cX3_noteCount 1 (some .int) ∈ big := (in_r21 _ (List.mem_of_getElem? (i := 13) rfl))
abbrev wyX3_noteCount : List Cond := .code yX3_noteCount cX3_noteCount 1 (some .int) :: big
theorem ok_X3_pathOn : Cond.code yX3_pathOn cX3_pathOn 6 (some .int) ∈ big := (in_r25 _ (List.mem_of_getElem? (i := 0) rfl))
abbrev wyX3_pathOn : List Cond := .code yX3_pathOn cX3_pathOn 6 (some .int) :: big
theorem ok_X3_placeOnTheWay : Cond.code yX3_placeOnTheWay cX3_placeOnTheWay 6 (some .int) ∈ big := (in_r24 _ (List.mem_of_getElem? (i := 20) rfl))
abbrev wyX3_placeOnTheWay : List Cond := .code yX3_placeOnTheWay cX3_placeOnTheWay 6 (some .int) :: big
theorem ok_X3_takeDown : Cond.code yX3_takeDown cX3_takeDown 2 (some .int) ∈ big := (in_r21 _ (List.mem_of_getElem? (i := 18) rfl))
abbrev wyX3_takeDown : List Cond := .code yX3_takeDown cX3_takeDown 2 (some .int) :: big
theorem ok_X3_waysBehind : Cond.code yX3_waysBehind cX3_waysBehind 4 (some .int) ∈ big := (in_r23 _ (List.mem_of_getElem? (i := 18) rfl))
abbrev wyX3_waysBehind : List Cond := .code yX3_waysBehind cX3_waysBehind 4 (some .int) :: big
theorem ok_X3_waysFrom : Cond.code yX3_waysFrom cX3_waysFrom 4 (some .int) ∈ big := (in_r22 _ (List.mem_of_getElem? (i := 21) rfl))
abbrev wyX3_waysFrom : List Cond := .code yX3_waysFrom cX3_waysFrom 4 (some .int) :: big
theorem ok_X3_waysOn : Cond.code yX3_waysOn cX3_waysOn 8 (some .int) ∈ big := (in_r23 _ (List.mem_of_getElem? (i := 4) rfl))
abbrev wyX3_waysOn : List Cond := .code yX3_waysOn cX3_waysOn 8 (some .int) :: big
theorem ok_X4_changeLeeway : Cond.code yX4_changeLeeway cX4_changeLeeway 3 (some .int) ∈ big := (in_r16 _ (List.mem_of_getElem? (i := 17) rfl))
abbrev wyX4_changeLeeway : List Cond := .code yX4_changeLeeway cX4_changeLeeway 3 (some .int) :: big
theorem ok_X4_dropAll : Cond.code yX4_dropAll cX4_dropAll 1 (some .int) ∈ big := (in_r27 _ (List.mem_of_getElem? (i := 5) rfl))
abbrev wyX4_dropAll : List Cond := .code yX4_dropAll cX4_dropAll 1 (some .int) :: big
theorem ok_X4_goOnTo : Cond.code yX4_goOnTo cX4_goOnTo 2 (some .int) ∈ big := (in_r26 _ (List.mem_of_getElem? (i := 15) rfl))
abbrev wyX4_goOnTo : List Cond := .code yX4_goOnTo cX4_goOnTo 2 (some .int) :: big
theorem ok_X4_init : Cond.code yX4_init cX4_init 3 none ∈ big := (in_r5 _ (List.mem_of_getElem? (i := 10) rfl))
abbrev wyX4_init : List Cond := .code yX4_init cX4_init 3 none :: big
theorem ok_X4_isHarmless : Cond.code yX4_isHarmless cX4_isHarmless 4 (some .boolean) ∈ big := (in_r28 _ (List.mem_of_getElem? (i := 4) rfl))
abbrev wyX4_isHarmless : List Cond := .code yX4_isHarmless cX4_isHarmless 4 (some .boolean) :: big
theorem ok_X4_marksNeeded : Cond.code yX4_marksNeeded cX4_marksNeeded 8 (some .int) ∈ big := (in_r27 _ (List.mem_of_getElem? (i := 18) rfl))
abbrev wyX4_marksNeeded : List Cond := .code yX4_marksNeeded cX4_marksNeeded 8 (some .int) :: big
theorem ok_X4_mayGoBadlyWrong : Cond.code yX4_mayGoBadlyWrong cX4_mayGoBadlyWrong 6 (some .boolean) ∈ big := (in_r27 _ (List.mem_of_getElem? (i := 22) rfl))
abbrev wyX4_mayGoBadlyWrong : List Cond := .code yX4_mayGoBadlyWrong cX4_mayGoBadlyWrong 6 (some .boolean) :: big
theorem ok_X4_mayGoOnTo : Cond.code yX4_mayGoOnTo cX4_mayGoOnTo 2 (some .boolean) ∈ big := (in_r25 _ (List.mem_of_getElem? (i := 18) rfl))
abbrev wyX4_mayGoOnTo : List Cond := .code yX4_mayGoOnTo cX4_mayGoOnTo 2 (some .boolean) :: big
theorem ok_X4_passes : Cond.code yX4_passes cX4_passes 2 (some .boolean) ∈ big := (in_r26 _ (List.mem_of_getElem? (i := 3) rfl))
abbrev wyX4_passes : List Cond := .code yX4_passes cX4_passes 2 (some .boolean) :: big
theorem ok_X4_placeCount : Cond.code yX4_placeCount cX4_placeCount 1 (some .int) ∈ big := (in_r25 _ (List.mem_of_getElem? (i := 22) rfl))
abbrev wyX4_placeCount : List Cond := .code yX4_placeCount cX4_placeCount 1 (some .int) :: big
theorem ok_X5_clear : Cond.code yX5_clear cX5_clear 2 (some .int) ∈ big := (in_r18 _ (List.mem_of_getElem? (i := 16) rfl))
abbrev wyX5_clear : List Cond := .code yX5_clear cX5_clear 2 (some .int) :: big
theorem ok_X5_filled : Cond.code yX5_filled cX5_filled 1 (some (.object "TwigsAndStones$Row")) ∈ big := (in_r3 _ (List.mem_of_getElem? (i := 15) rfl))
abbrev wyX5_filled : List Cond := .code yX5_filled cX5_filled 1 (some (.object "TwigsAndStones$Row")) :: big
theorem ok_X5_get : Cond.code yX5_get cX5_get 2 (some .int) ∈ big := (in_r9 _ (List.mem_of_getElem? (i := 6) rfl))
abbrev wyX5_get : List Cond := .code yX5_get cX5_get 2 (some .int) :: big
theorem ok_X5_has : Cond.code yX5_has cX5_has 3 (some .boolean) ∈ big := (in_r26 _ (List.mem_of_getElem? (i := 7) rfl))
abbrev wyX5_has : List Cond := .code yX5_has cX5_has 3 (some .boolean) :: big
theorem ok_X5_init : Cond.code yX5_init cX5_init 2 none ∈ big := (in_r3 _ (List.mem_of_getElem? (i := 8) rfl))
abbrev wyX5_init : List Cond := .code yX5_init cX5_init 2 none :: big
theorem ok_X5_push : Cond.code yX5_push cX5_push 2 (some .int) ∈ big := (in_r10 _ (List.mem_of_getElem? (i := 6) rfl))
abbrev wyX5_push : List Cond := .code yX5_push cX5_push 2 (some .int) :: big
theorem ok_X5_put : Cond.code yX5_put cX5_put 3 none ∈ big := (in_r10 _ (List.mem_of_getElem? (i := 12) rfl))
abbrev wyX5_put : List Cond := .code yX5_put cX5_put 3 none :: big
theorem ok_X5_size : Cond.code yX5_size cX5_size 1 (some .int) ∈ big := (in_r9 _ (List.mem_of_getElem? (i := 21) rfl))
abbrev wyX5_size : List Cond := .code yX5_size cX5_size 1 (some .int) :: big
theorem ok_X6_allSeen : Cond.code yX6_allSeen cX6_allSeen 5 (some .int) ∈ big := (in_r17 _ (List.mem_of_getElem? (i := 11) rfl))
abbrev wyX6_allSeen : List Cond := .code yX6_allSeen cX6_allSeen 5 (some .int) :: big
theorem ok_X6_changeFog : Cond.code yX6_changeFog cX6_changeFog 3 (some .int) ∈ big := (in_r16 _ (List.mem_of_getElem? (i := 13) rfl))
abbrev wyX6_changeFog : List Cond := .code yX6_changeFog cX6_changeFog 3 (some .int) :: big
theorem ok_X6_changeWeather : Cond.code yX6_changeWeather cX6_changeWeather 3 (some .int) ∈ big := (in_r11 _ (List.mem_of_getElem? (i := 15) rfl))
abbrev wyX6_changeWeather : List Cond := .code yX6_changeWeather cX6_changeWeather 3 (some .int) :: big
theorem ok_X6_countLeft : Cond.code yX6_countLeft cX6_countLeft 3 (some .int) ∈ big := (in_r39 _ (List.mem_of_getElem? (i := 13) rfl))
abbrev wyX6_countLeft : List Cond := .code yX6_countLeft cX6_countLeft 3 (some .int) :: big
theorem ok_X6_init : Cond.code yX6_init cX6_init 2 none ∈ big := (in_r3 _ (List.mem_of_getElem? (i := 19) rfl))
abbrev wyX6_init : List Cond := .code yX6_init cX6_init 2 none :: big
theorem ok_X6_isGone : Cond.code yX6_isGone cX6_isGone 2 (some .boolean) ∈ big := (in_r15 _ (List.mem_of_getElem? (i := 3) rfl))
abbrev wyX6_isGone : List Cond := .code yX6_isGone cX6_isGone 2 (some .boolean) :: big
theorem ok_X6_isSeen : Cond.code yX6_isSeen cX6_isSeen 5 (some .boolean) ∈ big := (in_r17 _ (List.mem_of_getElem? (i := 15) rfl))
abbrev wyX6_isSeen : List Cond := .code yX6_isSeen cX6_isSeen 5 (some .boolean) :: big
theorem ok_X6_kindOf : Cond.code yX6_kindOf cX6_kindOf 2 (some .int) ∈ big := (in_r12 _ (List.mem_of_getElem? (i := 21) rfl))
abbrev wyX6_kindOf : List Cond := .code yX6_kindOf cX6_kindOf 2 (some .int) :: big
theorem ok_X6_kindsSeen : Cond.code yX6_kindsSeen cX6_kindsSeen 5 (some .int) ∈ big := (in_r23 _ (List.mem_of_getElem? (i := 9) rfl))
abbrev wyX6_kindsSeen : List Cond := .code yX6_kindsSeen cX6_kindsSeen 5 (some .int) :: big
theorem ok_X6_lay : Cond.code yX6_lay cX6_lay 8 (some .int) ∈ big := (in_r14 _ (List.mem_of_getElem? (i := 4) rfl))
abbrev wyX6_lay : List Cond := .code yX6_lay cX6_lay 8 (some .int) :: big
theorem ok_X6_letDaysGoBy : Cond.code yX6_letDaysGoBy cX6_letDaysGoBy 4 (some .int) ∈ big := (in_r12 _ (List.mem_of_getElem? (i := 8) rfl))
abbrev wyX6_letDaysGoBy : List Cond := .code yX6_letDaysGoBy cX6_letDaysGoBy 4 (some .int) :: big
theorem ok_X6_placeOf : Cond.code yX6_placeOf cX6_placeOf 2 (some .int) ∈ big := (in_r14 _ (List.mem_of_getElem? (i := 22) rfl))
abbrev wyX6_placeOf : List Cond := .code yX6_placeOf cX6_placeOf 2 (some .int) :: big
theorem ok_X6_pointTo : Cond.code yX6_pointTo cX6_pointTo 4 (some .int) ∈ big := (in_r15 _ (List.mem_of_getElem? (i := 11) rfl))
abbrev wyX6_pointTo : List Cond := .code yX6_pointTo cX6_pointTo 4 (some .int) :: big
theorem ok_X6_signCount : Cond.code yX6_signCount cX6_signCount 1 (some .int) ∈ big := (in_r12 _ (List.mem_of_getElem? (i := 16) rfl))
abbrev wyX6_signCount : List Cond := .code yX6_signCount cX6_signCount 1 (some .int) :: big
theorem ok_X6_tell : Cond.code yX6_tell cX6_tell 3 (some .int) ∈ big := (in_r16 _ (List.mem_of_getElem? (i := 0) rfl))
abbrev wyX6_tell : List Cond := .code yX6_tell cX6_tell 3 (some .int) :: big
theorem ok_X6_today : Cond.code yX6_today cX6_today 1 (some .int) ∈ big := (in_r12 _ (List.mem_of_getElem? (i := 4) rfl))
abbrev wyX6_today : List Cond := .code yX6_today cX6_today 1 (some .int) :: big
theorem ok_X6_valueOf : Cond.code yX6_valueOf cX6_valueOf 2 (some .int) ∈ big := (in_r15 _ (List.mem_of_getElem? (i := 7) rfl))
abbrev wyX6_valueOf : List Cond := .code yX6_valueOf cX6_valueOf 2 (some .int) :: big
theorem ok_X7_begin : Cond.code yX7_begin cX7_begin 4 (some .int) ∈ big := (in_r29 _ (List.mem_of_getElem? (i := 8) rfl))
abbrev wyX7_begin : List Cond := .code yX7_begin cX7_begin 4 (some .int) :: big
theorem ok_X7_changeReach : Cond.code yX7_changeReach cX7_changeReach 3 (some .int) ∈ big := (in_r16 _ (List.mem_of_getElem? (i := 21) rfl))
abbrev wyX7_changeReach : List Cond := .code yX7_changeReach cX7_changeReach 3 (some .int) :: big
theorem ok_X7_comesBackToRoute : Cond.code yX7_comesBackToRoute cX7_comesBackToRoute 3 (some .boolean) ∈ big := (in_r31 _ (List.mem_of_getElem? (i := 17) rfl))
abbrev wyX7_comesBackToRoute : List Cond := .code yX7_comesBackToRoute cX7_comesBackToRoute 3 (some .boolean) :: big
theorem ok_X7_crosses : Cond.code yX7_crosses cX7_crosses 5 (some .boolean) ∈ big := (in_r32 _ (List.mem_of_getElem? (i := 2) rfl))
abbrev wyX7_crosses : List Cond := .code yX7_crosses cX7_crosses 5 (some .boolean) :: big
theorem ok_X7_faultsOf : Cond.code yX7_faultsOf cX7_faultsOf 4 (some .int) ∈ big := (in_r31 _ (List.mem_of_getElem? (i := 8) rfl))
abbrev wyX7_faultsOf : List Cond := .code yX7_faultsOf cX7_faultsOf 4 (some .int) :: big
theorem ok_X7_goOnTo : Cond.code yX7_goOnTo cX7_goOnTo 4 (some .int) ∈ big := (in_r29 _ (List.mem_of_getElem? (i := 14) rfl))
abbrev wyX7_goOnTo : List Cond := .code yX7_goOnTo cX7_goOnTo 4 (some .int) :: big
theorem ok_X7_indexOf : Cond.code yX7_indexOf cX7_indexOf 4 (some .int) ∈ big := (in_r30 _ (List.mem_of_getElem? (i := 17) rfl))
abbrev wyX7_indexOf : List Cond := .code yX7_indexOf cX7_indexOf 4 (some .int) :: big
theorem ok_X7_init : Cond.code yX7_init cX7_init 3 none ∈ big := (in_r5 _ (List.mem_of_getElem? (i := 20) rfl))
abbrev wyX7_init : List Cond := .code yX7_init cX7_init 3 none :: big
theorem ok_X7_isFalse : Cond.code yX7_isFalse cX7_isFalse 2 (some .boolean) ∈ big := (in_r31 _ (List.mem_of_getElem? (i := 12) rfl))
abbrev wyX7_isFalse : List Cond := .code yX7_isFalse cX7_isFalse 2 (some .boolean) :: big
theorem ok_X7_mayGoOnTo : Cond.code yX7_mayGoOnTo cX7_mayGoOnTo 4 (some .boolean) ∈ big := (in_r30 _ (List.mem_of_getElem? (i := 9) rfl))
abbrev wyX7_mayGoOnTo : List Cond := .code yX7_mayGoOnTo cX7_mayGoOnTo 4 (some .boolean) :: big
theorem ok_X7_placeAt : Cond.code yX7_placeAt cX7_placeAt 3 (some .int) ∈ big := (in_r30 _ (List.mem_of_getElem? (i := 13) rfl))
abbrev wyX7_placeAt : List Cond := .code yX7_placeAt cX7_placeAt 3 (some .int) :: big
theorem ok_X7_sizeOf : Cond.code yX7_sizeOf cX7_sizeOf 2 (some .int) ∈ big := (in_r29 _ (List.mem_of_getElem? (i := 18) rfl))
abbrev wyX7_sizeOf : List Cond := .code yX7_sizeOf cX7_sizeOf 2 (some .int) :: big
theorem ok_X7_trailCount : Cond.code yX7_trailCount cX7_trailCount 1 (some .int) ∈ big := (in_r29 _ (List.mem_of_getElem? (i := 3) rfl))
abbrev wyX7_trailCount : List Cond := .code yX7_trailCount cX7_trailCount 1 (some .int) :: big
theorem ok_X7_wholeLength : Cond.code yX7_wholeLength cX7_wholeLength 4 (some .int) ∈ big := (in_r31 _ (List.mem_of_getElem? (i := 21) rfl))
abbrev wyX7_wholeLength : List Cond := .code yX7_wholeLength cX7_wholeLength 4 (some .int) :: big
theorem ok_X8_choice : Cond.code yX8_choice cX8_choice 8 (some .int) ∈ big := (in_r18 _ (List.mem_of_getElem? (i := 21) rfl))
abbrev wyX8_choice : List Cond := .code yX8_choice cX8_choice 8 (some .int) :: big
theorem ok_X8_choiceAmong : Cond.code yX8_choiceAmong cX8_choiceAmong 4 (some .int) ∈ big := (in_r19 _ (List.mem_of_getElem? (i := 6) rfl))
abbrev wyX8_choiceAmong : List Cond := .code yX8_choiceAmong cX8_choiceAmong 4 (some .int) :: big
theorem ok_X8_goFrom : Cond.code yX8_goFrom cX8_goFrom 8 none ∈ big := (in_r18 _ (List.mem_of_getElem? (i := 12) rfl))
abbrev wyX8_goFrom : List Cond := .code yX8_goFrom cX8_goFrom 8 none :: big
theorem ok_X8_init : Cond.code yX8_init cX8_init 3 none ∈ big := (in_r4 _ (List.mem_of_getElem? (i := 12) rfl))
abbrev wyX8_init : List Cond := .code yX8_init cX8_init 3 none :: big
theorem ok_X8_placeBehind : Cond.code yX8_placeBehind cX8_placeBehind 2 (some .int) ∈ big := (in_r21 _ (List.mem_of_getElem? (i := 1) rfl))
abbrev wyX8_placeBehind : List Cond := .code yX8_placeBehind cX8_placeBehind 2 (some .int) :: big
theorem ok_X8_tell : Cond.code yX8_tell cX8_tell 2 (some .int) ∈ big := (in_r19 _ (List.mem_of_getElem? (i := 20) rfl))
abbrev wyX8_tell : List Cond := .code yX8_tell cX8_tell 2 (some .int) :: big
theorem ok_X9_add : Cond.code yX9_add cX9_add 3 (some .int) ∈ big := (in_r30 _ (List.mem_of_getElem? (i := 5) rfl))
abbrev wyX9_add : List Cond := .code yX9_add cX9_add 3 (some .int) :: big
theorem ok_X9_at : Cond.code yX9_at cX9_at 3 (some .int) ∈ big := (in_r15 _ (List.mem_of_getElem? (i := 20) rfl))
abbrev wyX9_at : List Cond := .code yX9_at cX9_at 3 (some .int) :: big
theorem ok_X9_bitOf : Cond.code yX9_bitOf cX9_bitOf 1 (some .int) ∈ big := (in_r10 _ (List.mem_of_getElem? (i := 8) rfl))
abbrev wyX9_bitOf : List Cond := .code yX9_bitOf cX9_bitOf 1 (some .int) :: big
theorem ok_X9_branch : Cond.code yX9_branch cX9_branch 2 (some .int) ∈ big := (in_r32 _ (List.mem_of_getElem? (i := 18) rfl))
abbrev wyX9_branch : List Cond := .code yX9_branch cX9_branch 2 (some .int) :: big
theorem ok_X9_breaks : Cond.code yX9_breaks cX9_breaks 2 (some .int) ∈ big := (in_r31 _ (List.mem_of_getElem? (i := 4) rfl))
abbrev wyX9_breaks : List Cond := .code yX9_breaks cX9_breaks 2 (some .int) :: big
theorem ok_X9_club : Cond.code yX9_club cX9_club 3 (some .int) ∈ big := (in_r36 _ (List.mem_of_getElem? (i := 16) rfl))
abbrev wyX9_club : List Cond := .code yX9_club cX9_club 3 (some .int) :: big
theorem ok_X9_colour : Cond.code yX9_colour cX9_colour 4 (some .int) ∈ big := (in_r37 _ (List.mem_of_getElem? (i := 13) rfl))
abbrev wyX9_colour : List Cond := .code yX9_colour cX9_colour 4 (some .int) :: big
theorem ok_X9_count : Cond.code yX9_count cX9_count 2 (some .int) ∈ big := (in_r39 _ (List.mem_of_getElem? (i := 9) rfl))
abbrev wyX9_count : List Cond := .code yX9_count cX9_count 2 (some .int) :: big
theorem ok_X9_days : Cond.code yX9_days cX9_days 2 (some .int) ∈ big := (in_r12 _ (List.mem_of_getElem? (i := 0) rfl))
abbrev wyX9_days : List Cond := .code yX9_days cX9_days 2 (some .int) :: big
theorem ok_X9_forget : Cond.code yX9_forget cX9_forget 1 (some .int) ∈ big := (in_r22 _ (List.mem_of_getElem? (i := 4) rfl))
abbrev wyX9_forget : List Cond := .code yX9_forget cX9_forget 1 (some .int) :: big
theorem ok_X9_init : Cond.code yX9_init cX9_init 1 none ∈ big := (in_r1 _ (List.mem_of_getElem? (i := 8) rfl))
abbrev wyX9_init : List Cond := .code yX9_init cX9_init 1 none :: big
theorem ok_X9_isClub : Cond.code yX9_isClub cX9_isClub 1 (some .boolean) ∈ big := (in_r36 _ (List.mem_of_getElem? (i := 19) rfl))
abbrev wyX9_isClub : List Cond := .code yX9_isClub cX9_isClub 1 (some .boolean) :: big
theorem ok_X9_isColour : Cond.code yX9_isColour cX9_isColour 1 (some .boolean) ∈ big := (in_r13 _ (List.mem_of_getElem? (i := 22) rfl))
abbrev wyX9_isColour : List Cond := .code yX9_isColour cX9_isColour 1 (some .boolean) :: big
theorem ok_X9_isOfPath : Cond.code yX9_isOfPath cX9_isOfPath 1 (some .boolean) ∈ big := (in_r13 _ (List.mem_of_getElem? (i := 12) rfl))
abbrev wyX9_isOfPath : List Cond := .code yX9_isOfPath cX9_isOfPath 1 (some .boolean) :: big
theorem ok_X9_isPlace : Cond.code yX9_isPlace cX9_isPlace 1 (some .boolean) ∈ big := (in_r8 _ (List.mem_of_getElem? (i := 15) rfl))
abbrev wyX9_isPlace : List Cond := .code yX9_isPlace cX9_isPlace 1 (some .boolean) :: big
theorem ok_X9_isSignValue : Cond.code yX9_isSignValue cX9_isSignValue 2 (some .boolean) ∈ big := (in_r13 _ (List.mem_of_getElem? (i := 19) rfl))
abbrev wyX9_isSignValue : List Cond := .code yX9_isSignValue cX9_isSignValue 2 (some .boolean) :: big
theorem ok_X9_isWithin : Cond.code yX9_isWithin cX9_isWithin 3 (some .boolean) ∈ big := (in_r8 _ (List.mem_of_getElem? (i := 18) rfl))
abbrev wyX9_isWithin : List Cond := .code yX9_isWithin cX9_isWithin 3 (some .boolean) :: big
theorem ok_X9_needed : Cond.code yX9_needed cX9_needed 2 (some .int) ∈ big := (in_r27 _ (List.mem_of_getElem? (i := 14) rfl))
abbrev wyX9_needed : List Cond := .code yX9_needed cX9_needed 2 (some .int) :: big
theorem ok_X9_note : Cond.code yX9_note cX9_note 2 (some .int) ∈ big := (in_r21 _ (List.mem_of_getElem? (i := 9) rfl))
abbrev wyX9_note : List Cond := .code yX9_note cX9_note 2 (some .int) :: big
theorem ok_X9_only : Cond.code yX9_only cX9_only 3 (some .int) ∈ big := (in_r24 _ (List.mem_of_getElem? (i := 16) rfl))
abbrev wyX9_only : List Cond := .code yX9_only cX9_only 3 (some .int) :: big
theorem ok_X9_path : Cond.code yX9_path cX9_path 4 (some .int) ∈ big := (in_r8 _ (List.mem_of_getElem? (i := 12) rfl))
abbrev wyX9_path : List Cond := .code yX9_path cX9_path 4 (some .int) :: big
theorem ok_X9_route : Cond.code yX9_route cX9_route 2 (some .int) ∈ big := (in_r25 _ (List.mem_of_getElem? (i := 14) rfl))
abbrev wyX9_route : List Cond := .code yX9_route cX9_route 2 (some .int) :: big
theorem ok_X9_seen : Cond.code yX9_seen cX9_seen 3 (some .int) ∈ big := (in_r17 _ (List.mem_of_getElem? (i := 7) rfl))
abbrev wyX9_seen : List Cond := .code yX9_seen cX9_seen 3 (some .int) :: big
theorem ok_X9_set : Cond.code yX9_set cX9_set 3 (some .int) ∈ big := (in_r16 _ (List.mem_of_getElem? (i := 9) rfl))
abbrev wyX9_set : List Cond := .code yX9_set cX9_set 3 (some .int) :: big
theorem ok_X9_sign : Cond.code yX9_sign cX9_sign 7 (some .int) ∈ big := (in_r13 _ (List.mem_of_getElem? (i := 9) rfl))
abbrev wyX9_sign : List Cond := .code yX9_sign cX9_sign 7 (some .int) :: big
theorem ok_X9_split : Cond.code yX9_split cX9_split 4 (some .int) ∈ big := (in_r35 _ (List.mem_of_getElem? (i := 19) rfl))
abbrev wyX9_split : List Cond := .code yX9_split cX9_split 4 (some .int) :: big
theorem ok_X9_trail : Cond.code yX9_trail cX9_trail 3 (some .int) ∈ big := (in_r28 _ (List.mem_of_getElem? (i := 23) rfl))
abbrev wyX9_trail : List Cond := .code yX9_trail cX9_trail 3 (some .int) :: big
theorem ok_X9_turn : Cond.code yX9_turn cX9_turn 3 (some .int) ∈ big := (in_r14 _ (List.mem_of_getElem? (i := 18) rfl))
abbrev wyX9_turn : List Cond := .code yX9_turn cX9_turn 3 (some .int) :: big
theorem ok_X9_unbranch : Cond.code yX9_unbranch cX9_unbranch 1 (some .int) ∈ big := (in_r33 _ (List.mem_of_getElem? (i := 13) rfl))
abbrev wyX9_unbranch : List Cond := .code yX9_unbranch cX9_unbranch 1 (some .int) :: big
theorem ok_X9_unroute : Cond.code yX9_unroute cX9_unroute 1 (some .int) ∈ big := (in_r27 _ (List.mem_of_getElem? (i := 1) rfl))
abbrev wyX9_unroute : List Cond := .code yX9_unroute cX9_unroute 1 (some .int) :: big
theorem ok_X9_walk : Cond.code yX9_walk cX9_walk 3 (some .int) ∈ big := (in_r18 _ (List.mem_of_getElem? (i := 8) rfl))
abbrev wyX9_walk : List Cond := .code yX9_walk cX9_walk 3 (some .int) :: big
theorem ok_X9_walked : Cond.code yX9_walked cX9_walked 3 (some .int) ∈ big := (in_r20 _ (List.mem_of_getElem? (i := 21) rfl))
abbrev wyX9_walked : List Cond := .code yX9_walked cX9_walked 3 (some .int) :: big
theorem ok_X9_ways : Cond.code yX9_ways cX9_ways 2 (some .int) ∈ big := (in_r22 _ (List.mem_of_getElem? (i := 17) rfl))
abbrev wyX9_ways : List Cond := .code yX9_ways cX9_ways 2 (some .int) :: big
theorem ok_X9_weather : Cond.code yX9_weather cX9_weather 2 (some .int) ∈ big := (in_r11 _ (List.mem_of_getElem? (i := 11) rfl))
abbrev wyX9_weather : List Cond := .code yX9_weather cX9_weather 2 (some .int) :: big
theorem ok_X9_whose : Cond.code yX9_whose cX9_whose 5 (some .int) ∈ big := (in_r38 _ (List.mem_of_getElem? (i := 8) rfl))
abbrev wyX9_whose : List Cond := .code yX9_whose cX9_whose 5 (some .int) :: big
theorem ok_X9_worst : Cond.code yX9_worst cX9_worst 2 (some .int) ∈ big := (in_r34 _ (List.mem_of_getElem? (i := 2) rfl))
abbrev wyX9_worst : List Cond := .code yX9_worst cX9_worst 2 (some .int) :: big
theorem cw_L_9 {R : Room} {s : State} {args : Array Value} {rm : Room} {mc ms : Nat} (hts : ∀ w ∈ big, w.before args s = true) (hrc : rm.cells = mc) (hrs : rm.slots = ms) (hR : rm.frames + 1 ≤ R.frames ∧ 8 + (1 + 11) + rm.locals ≤ R.locals) : CallB R s args RL 9 yX9_init cX9_init 1 none wyX9_init rm mc ms 0 ∧ yX9_init.name = "<init>" ∧ (Cond.instanceMethod yX9_init).before args s = true := ⟨callB_of 0 hts (big_code ok_X9_init) rfl hrc hrs (hts (.initialized RX9) (in_r1 _ (List.mem_of_getElem? (i := 2) rfl))) (hts (.methodLink RL 9 yX9_init) (in_r1 _ (List.mem_of_getElem? (i := 6) rfl))) (by decide +kernel) hR, rfl, (hts (.instanceMethod yX9_init) (in_r1 _ (List.mem_of_getElem? (i := 7) rfl)))⟩
theorem cw_X2_11 {R : Room} {s : State} {args : Array Value} {rm : Room} {mc ms : Nat} (hts : ∀ w ∈ big, w.before args s = true) (hrc : rm.cells = mc) (hrs : rm.slots = ms) (hR : rm.frames + 1 ≤ R.frames ∧ 8 + (2 + 11) + rm.locals ≤ R.locals) : CallB R s args RX2 11 yX5_init cX5_init 2 none wyX5_init rm mc ms 1 ∧ yX5_init.name = "<init>" ∧ (Cond.instanceMethod yX5_init).before args s = true := ⟨callB_of 1 hts (big_code ok_X5_init) rfl hrc hrs (hts (.initialized RX5) (in_r3 _ (List.mem_of_getElem? (i := 1) rfl))) (hts (.methodLink RX2 11 yX5_init) (in_r3 _ (List.mem_of_getElem? (i := 6) rfl))) (by decide +kernel) hR, rfl, (hts (.instanceMethod yX5_init) (in_r3 _ (List.mem_of_getElem? (i := 7) rfl)))⟩
theorem cw_X2_26 {R : Room} {s : State} {args : Array Value} {rm : Room} {mc ms : Nat} (hts : ∀ w ∈ big, w.before args s = true) (hrc : rm.cells = mc) (hrs : rm.slots = ms) (hR : rm.frames + 1 ≤ R.frames ∧ 8 + (1 + 11) + rm.locals ≤ R.locals) : CallW R s args RX2 RX5 26 yX5_filled cX5_filled 1 (some (.object "TwigsAndStones$Row")) wyX5_filled rm mc ms 0 := ⟨callB_of 0 hts (big_code ok_X5_filled) rfl hrc hrs (hts (.initialized RX5) (in_r3 _ (List.mem_of_getElem? (i := 1) rfl))) (hts (.methodLink RX2 26 yX5_filled) (in_r3 _ (List.mem_of_getElem? (i := 12) rfl))) (by decide +kernel) hR, (hts (.instanceMethod yX5_filled) (in_r3 _ (List.mem_of_getElem? (i := 13) rfl))), (hts (.selects RX5 yX5_filled yX5_filled) (in_r3 _ (List.mem_of_getElem? (i := 14) rfl)))⟩
theorem cw_X9_18 {R : Room} {s : State} {args : Array Value} {rm : Room} {mc ms : Nat} (hts : ∀ w ∈ big, w.before args s = true) (hrc : rm.cells = mc) (hrs : rm.slots = ms) (hR : rm.frames + 1 ≤ R.frames ∧ 8 + (2 + 11) + rm.locals ≤ R.locals) : CallB R s args RX9 18 yX6_init cX6_init 2 none wyX6_init rm mc ms 1 ∧ yX6_init.name = "<init>" ∧ (Cond.instanceMethod yX6_init).before args s = true := ⟨callB_of 1 hts (big_code ok_X6_init) rfl hrc hrs (hts (.initialized RX6) (in_r1 _ (List.mem_of_getElem? (i := 18) rfl))) (hts (.methodLink RX9 18 yX6_init) (in_r3 _ (List.mem_of_getElem? (i := 17) rfl))) (by decide +kernel) hR, rfl, (hts (.instanceMethod yX6_init) (in_r3 _ (List.mem_of_getElem? (i := 18) rfl)))⟩
theorem cw_X6_13 {R : Room} {s : State} {args : Array Value} {rm : Room} {mc ms : Nat} (hts : ∀ w ∈ big, w.before args s = true) (hrc : rm.cells = mc) (hrs : rm.slots = ms) (hR : rm.frames + 1 ≤ R.frames ∧ 8 + (2 + 11) + rm.locals ≤ R.locals) : CallB R s args RX6 13 yX5_init cX5_init 2 none wyX5_init rm mc ms 1 ∧ yX5_init.name = "<init>" ∧ (Cond.instanceMethod yX5_init).before args s = true := ⟨callB_of 1 hts (big_code ok_X5_init) rfl hrc hrs (hts (.initialized RX5) (in_r3 _ (List.mem_of_getElem? (i := 1) rfl))) (hts (.methodLink RX6 13 yX5_init) (in_r4 _ (List.mem_of_getElem? (i := 9) rfl))) (by decide +kernel) hR, rfl, (hts (.instanceMethod yX5_init) (in_r3 _ (List.mem_of_getElem? (i := 7) rfl)))⟩
theorem cw_X9_27 {R : Room} {s : State} {args : Array Value} {rm : Room} {mc ms : Nat} (hts : ∀ w ∈ big, w.before args s = true) (hrc : rm.cells = mc) (hrs : rm.slots = ms) (hR : rm.frames + 1 ≤ R.frames ∧ 8 + (3 + 11) + rm.locals ≤ R.locals) : CallB R s args RX9 27 yX8_init cX8_init 3 none wyX8_init rm mc ms 2 ∧ yX8_init.name = "<init>" ∧ (Cond.instanceMethod yX8_init).before args s = true := ⟨callB_of 2 hts (big_code ok_X8_init) rfl hrc hrs (hts (.initialized RX8) (in_r1 _ (List.mem_of_getElem? (i := 22) rfl))) (hts (.methodLink RX9 27 yX8_init) (in_r4 _ (List.mem_of_getElem? (i := 10) rfl))) (by decide +kernel) hR, rfl, (hts (.instanceMethod yX8_init) (in_r4 _ (List.mem_of_getElem? (i := 11) rfl)))⟩
theorem cw_X8_13 {R : Room} {s : State} {args : Array Value} {rm : Room} {mc ms : Nat} (hts : ∀ w ∈ big, w.before args s = true) (hrc : rm.cells = mc) (hrs : rm.slots = ms) (hR : rm.frames + 1 ≤ R.frames ∧ 8 + (2 + 11) + rm.locals ≤ R.locals) : CallB R s args RX8 13 yX5_init cX5_init 2 none wyX5_init rm mc ms 1 ∧ yX5_init.name = "<init>" ∧ (Cond.instanceMethod yX5_init).before args s = true := ⟨callB_of 1 hts (big_code ok_X5_init) rfl hrc hrs (hts (.initialized RX5) (in_r3 _ (List.mem_of_getElem? (i := 1) rfl))) (hts (.methodLink RX8 13 yX5_init) (in_r4 _ (List.mem_of_getElem? (i := 20) rfl))) (by decide +kernel) hR, rfl, (hts (.instanceMethod yX5_init) (in_r3 _ (List.mem_of_getElem? (i := 7) rfl)))⟩
theorem cw_X9_36 {R : Room} {s : State} {args : Array Value} {rm : Room} {mc ms : Nat} (hts : ∀ w ∈ big, w.before args s = true) (hrc : rm.cells = mc) (hrs : rm.slots = ms) (hR : rm.frames + 1 ≤ R.frames ∧ 8 + (3 + 11) + rm.locals ≤ R.locals) : CallB R s args RX9 36 yX3_init cX3_init 3 none wyX3_init rm mc ms 2 ∧ yX3_init.name = "<init>" ∧ (Cond.instanceMethod yX3_init).before args s = true := ⟨callB_of 2 hts (big_code ok_X3_init) rfl hrc hrs (hts (.initialized RX3) (in_r2 _ (List.mem_of_getElem? (i := 2) rfl))) (hts (.methodLink RX9 36 yX3_init) (in_r4 _ (List.mem_of_getElem? (i := 21) rfl))) (by decide +kernel) hR, rfl, (hts (.instanceMethod yX3_init) (in_r4 _ (List.mem_of_getElem? (i := 22) rfl)))⟩
theorem cw_X3_13 {R : Room} {s : State} {args : Array Value} {rm : Room} {mc ms : Nat} (hts : ∀ w ∈ big, w.before args s = true) (hrc : rm.cells = mc) (hrs : rm.slots = ms) (hR : rm.frames + 1 ≤ R.frames ∧ 8 + (2 + 11) + rm.locals ≤ R.locals) : CallB R s args RX3 13 yX5_init cX5_init 2 none wyX5_init rm mc ms 1 ∧ yX5_init.name = "<init>" ∧ (Cond.instanceMethod yX5_init).before args s = true := ⟨callB_of 1 hts (big_code ok_X5_init) rfl hrc hrs (hts (.initialized RX5) (in_r3 _ (List.mem_of_getElem? (i := 1) rfl))) (hts (.methodLink RX3 13 yX5_init) (in_r5 _ (List.mem_of_getElem? (i := 6) rfl))) (by decide +kernel) hR, rfl, (hts (.instanceMethod yX5_init) (in_r3 _ (List.mem_of_getElem? (i := 7) rfl)))⟩
theorem cw_X3_22 {R : Room} {s : State} {args : Array Value} {rm : Room} {mc ms : Nat} (hts : ∀ w ∈ big, w.before args s = true) (hrc : rm.cells = mc) (hrs : rm.slots = ms) (hR : rm.frames + 1 ≤ R.frames ∧ 8 + (1 + 11) + rm.locals ≤ R.locals) : CallW R s args RX3 RX5 22 yX5_filled cX5_filled 1 (some (.object "TwigsAndStones$Row")) wyX5_filled rm mc ms 0 := ⟨callB_of 0 hts (big_code ok_X5_filled) rfl hrc hrs (hts (.initialized RX5) (in_r3 _ (List.mem_of_getElem? (i := 1) rfl))) (hts (.methodLink RX3 22 yX5_filled) (in_r5 _ (List.mem_of_getElem? (i := 7) rfl))) (by decide +kernel) hR, (hts (.instanceMethod yX5_filled) (in_r3 _ (List.mem_of_getElem? (i := 13) rfl))), (hts (.selects RX5 yX5_filled yX5_filled) (in_r3 _ (List.mem_of_getElem? (i := 14) rfl)))⟩
theorem cw_X9_43 {R : Room} {s : State} {args : Array Value} {rm : Room} {mc ms : Nat} (hts : ∀ w ∈ big, w.before args s = true) (hrc : rm.cells = mc) (hrs : rm.slots = ms) (hR : rm.frames + 1 ≤ R.frames ∧ 8 + (3 + 11) + rm.locals ≤ R.locals) : CallB R s args RX9 43 yX4_init cX4_init 3 none wyX4_init rm mc ms 2 ∧ yX4_init.name = "<init>" ∧ (Cond.instanceMethod yX4_init).before args s = true := ⟨callB_of 2 hts (big_code ok_X4_init) rfl hrc hrs (hts (.initialized RX4) (in_r2 _ (List.mem_of_getElem? (i := 6) rfl))) (hts (.methodLink RX9 43 yX4_init) (in_r5 _ (List.mem_of_getElem? (i := 8) rfl))) (by decide +kernel) hR, rfl, (hts (.instanceMethod yX4_init) (in_r5 _ (List.mem_of_getElem? (i := 9) rfl)))⟩
theorem cw_X4_13 {R : Room} {s : State} {args : Array Value} {rm : Room} {mc ms : Nat} (hts : ∀ w ∈ big, w.before args s = true) (hrc : rm.cells = mc) (hrs : rm.slots = ms) (hR : rm.frames + 1 ≤ R.frames ∧ 8 + (2 + 11) + rm.locals ≤ R.locals) : CallB R s args RX4 13 yX5_init cX5_init 2 none wyX5_init rm mc ms 1 ∧ yX5_init.name = "<init>" ∧ (Cond.instanceMethod yX5_init).before args s = true := ⟨callB_of 1 hts (big_code ok_X5_init) rfl hrc hrs (hts (.initialized RX5) (in_r3 _ (List.mem_of_getElem? (i := 1) rfl))) (hts (.methodLink RX4 13 yX5_init) (in_r5 _ (List.mem_of_getElem? (i := 17) rfl))) (by decide +kernel) hR, rfl, (hts (.instanceMethod yX5_init) (in_r3 _ (List.mem_of_getElem? (i := 7) rfl)))⟩
theorem cw_X9_52 {R : Room} {s : State} {args : Array Value} {rm : Room} {mc ms : Nat} (hts : ∀ w ∈ big, w.before args s = true) (hrc : rm.cells = mc) (hrs : rm.slots = ms) (hR : rm.frames + 1 ≤ R.frames ∧ 8 + (3 + 11) + rm.locals ≤ R.locals) : CallB R s args RX9 52 yX7_init cX7_init 3 none wyX7_init rm mc ms 2 ∧ yX7_init.name = "<init>" ∧ (Cond.instanceMethod yX7_init).before args s = true := ⟨callB_of 2 hts (big_code ok_X7_init) rfl hrc hrs (hts (.initialized RX7) (in_r2 _ (List.mem_of_getElem? (i := 10) rfl))) (hts (.methodLink RX9 52 yX7_init) (in_r5 _ (List.mem_of_getElem? (i := 18) rfl))) (by decide +kernel) hR, rfl, (hts (.instanceMethod yX7_init) (in_r5 _ (List.mem_of_getElem? (i := 19) rfl)))⟩
theorem cw_X7_13 {R : Room} {s : State} {args : Array Value} {rm : Room} {mc ms : Nat} (hts : ∀ w ∈ big, w.before args s = true) (hrc : rm.cells = mc) (hrs : rm.slots = ms) (hR : rm.frames + 1 ≤ R.frames ∧ 8 + (2 + 11) + rm.locals ≤ R.locals) : CallB R s args RX7 13 yX5_init cX5_init 2 none wyX5_init rm mc ms 1 ∧ yX5_init.name = "<init>" ∧ (Cond.instanceMethod yX5_init).before args s = true := ⟨callB_of 1 hts (big_code ok_X5_init) rfl hrc hrs (hts (.initialized RX5) (in_r3 _ (List.mem_of_getElem? (i := 1) rfl))) (hts (.methodLink RX7 13 yX5_init) (in_r6 _ (List.mem_of_getElem? (i := 5) rfl))) (by decide +kernel) hR, rfl, (hts (.instanceMethod yX5_init) (in_r3 _ (List.mem_of_getElem? (i := 7) rfl)))⟩
theorem cw_X7_16 {R : Room} {s : State} {args : Array Value} {rm : Room} {mc ms : Nat} (hts : ∀ w ∈ big, w.before args s = true) (hrc : rm.cells = mc) (hrs : rm.slots = ms) (hR : rm.frames + 1 ≤ R.frames ∧ 8 + (1 + 11) + rm.locals ≤ R.locals) : CallW R s args RX7 RX5 16 yX5_filled cX5_filled 1 (some (.object "TwigsAndStones$Row")) wyX5_filled rm mc ms 0 := ⟨callB_of 0 hts (big_code ok_X5_filled) rfl hrc hrs (hts (.initialized RX5) (in_r3 _ (List.mem_of_getElem? (i := 1) rfl))) (hts (.methodLink RX7 16 yX5_filled) (in_r6 _ (List.mem_of_getElem? (i := 6) rfl))) (by decide +kernel) hR, (hts (.instanceMethod yX5_filled) (in_r3 _ (List.mem_of_getElem? (i := 13) rfl))), (hts (.selects RX5 yX5_filled yX5_filled) (in_r3 _ (List.mem_of_getElem? (i := 14) rfl)))⟩
theorem cw_X1_11 {R : Room} {s : State} {args : Array Value} {rm : Room} {mc ms : Nat} (hts : ∀ w ∈ big, w.before args s = true) (hrc : rm.cells = mc) (hrs : rm.slots = ms) (hR : rm.frames + 1 ≤ R.frames ∧ 8 + (2 + 11) + rm.locals ≤ R.locals) : CallB R s args RX1 11 yX5_init cX5_init 2 none wyX5_init rm mc ms 1 ∧ yX5_init.name = "<init>" ∧ (Cond.instanceMethod yX5_init).before args s = true := ⟨callB_of 1 hts (big_code ok_X5_init) rfl hrc hrs (hts (.initialized RX5) (in_r3 _ (List.mem_of_getElem? (i := 1) rfl))) (hts (.methodLink RX1 11 yX5_init) (in_r6 _ (List.mem_of_getElem? (i := 14) rfl))) (by decide +kernel) hR, rfl, (hts (.instanceMethod yX5_init) (in_r3 _ (List.mem_of_getElem? (i := 7) rfl)))⟩
theorem cw_X1_18 {R : Room} {s : State} {args : Array Value} {rm : Room} {mc ms : Nat} (hts : ∀ w ∈ big, w.before args s = true) (hrc : rm.cells = mc) (hrs : rm.slots = ms) (hR : rm.frames + 1 ≤ R.frames ∧ 8 + (1 + 11) + rm.locals ≤ R.locals) : CallW R s args RX1 RX5 18 yX5_filled cX5_filled 1 (some (.object "TwigsAndStones$Row")) wyX5_filled rm mc ms 0 := ⟨callB_of 0 hts (big_code ok_X5_filled) rfl hrc hrs (hts (.initialized RX5) (in_r3 _ (List.mem_of_getElem? (i := 1) rfl))) (hts (.methodLink RX1 18 yX5_filled) (in_r6 _ (List.mem_of_getElem? (i := 15) rfl))) (by decide +kernel) hR, (hts (.instanceMethod yX5_filled) (in_r3 _ (List.mem_of_getElem? (i := 13) rfl))), (hts (.selects RX5 yX5_filled yX5_filled) (in_r3 _ (List.mem_of_getElem? (i := 14) rfl)))⟩
theorem cw_X0_13 {R : Room} {s : State} {args : Array Value} {rm : Room} {mc ms : Nat} (hts : ∀ w ∈ big, w.before args s = true) (hrc : rm.cells = mc) (hrs : rm.slots = ms) (hR : rm.frames + 1 ≤ R.frames ∧ 8 + (2 + 11) + rm.locals ≤ R.locals) : CallB R s args RX0 13 yX5_init cX5_init 2 none wyX5_init rm mc ms 1 ∧ yX5_init.name = "<init>" ∧ (Cond.instanceMethod yX5_init).before args s = true := ⟨callB_of 1 hts (big_code ok_X5_init) rfl hrc hrs (hts (.initialized RX5) (in_r3 _ (List.mem_of_getElem? (i := 1) rfl))) (hts (.methodLink RX0 13 yX5_init) (in_r7 _ (List.mem_of_getElem? (i := 0) rfl))) (by decide +kernel) hR, rfl, (hts (.instanceMethod yX5_init) (in_r3 _ (List.mem_of_getElem? (i := 7) rfl)))⟩
theorem cw_X0_16 {R : Room} {s : State} {args : Array Value} {rm : Room} {mc ms : Nat} (hts : ∀ w ∈ big, w.before args s = true) (hrc : rm.cells = mc) (hrs : rm.slots = ms) (hR : rm.frames + 1 ≤ R.frames ∧ 8 + (1 + 11) + rm.locals ≤ R.locals) : CallW R s args RX0 RX5 16 yX5_filled cX5_filled 1 (some (.object "TwigsAndStones$Row")) wyX5_filled rm mc ms 0 := ⟨callB_of 0 hts (big_code ok_X5_filled) rfl hrc hrs (hts (.initialized RX5) (in_r3 _ (List.mem_of_getElem? (i := 1) rfl))) (hts (.methodLink RX0 16 yX5_filled) (in_r7 _ (List.mem_of_getElem? (i := 1) rfl))) (by decide +kernel) hR, (hts (.instanceMethod yX5_filled) (in_r3 _ (List.mem_of_getElem? (i := 13) rfl))), (hts (.selects RX5 yX5_filled yX5_filled) (in_r3 _ (List.mem_of_getElem? (i := 14) rfl)))⟩
theorem cw_L_12 {R : Room} {s : State} {args : Array Value} {rm : Room} {mc ms : Nat} (hts : ∀ w ∈ big, w.before args s = true) (hrc : rm.cells = mc) (hrs : rm.slots = ms) (hR : rm.frames + 1 ≤ R.frames ∧ 8 + (1 + 11) + rm.locals ≤ R.locals) : CallB R s args RL 12 yX10_init cX10_init 1 none wyX10_init rm mc ms 0 ∧ yX10_init.name = "<init>" ∧ (Cond.instanceMethod yX10_init).before args s = true := ⟨callB_of 0 hts (big_code ok_X10_init) rfl hrc hrs (hts (.initialized RX10) (in_r1 _ (List.mem_of_getElem? (i := 5) rfl))) (hts (.methodLink RL 12 yX10_init) (in_r7 _ (List.mem_of_getElem? (i := 2) rfl))) (by decide +kernel) hR, rfl, (hts (.instanceMethod yX10_init) (in_r7 _ (List.mem_of_getElem? (i := 3) rfl)))⟩
theorem cw_L_13 {R : Room} {s : State} {args : Array Value} {rm : Room} {mc ms : Nat} (hts : ∀ w ∈ big, w.before args s = true) (hrc : rm.cells = mc) (hrs : rm.slots = ms) (hR : rm.frames + 1 ≤ R.frames ∧ 8 + (4 + 11) + rm.locals ≤ R.locals) : CallW R s args RL RX9 13 yX9_path cX9_path 4 (some .int) wyX9_path rm mc ms 3 := ⟨callB_of 3 hts (big_code ok_X9_path) rfl hrc hrs (hts (.initialized RX9) (in_r1 _ (List.mem_of_getElem? (i := 2) rfl))) (hts (.methodLink RL 13 yX9_path) (in_r8 _ (List.mem_of_getElem? (i := 9) rfl))) (by decide +kernel) hR, (hts (.instanceMethod yX9_path) (in_r8 _ (List.mem_of_getElem? (i := 10) rfl))), (hts (.selects RX9 yX9_path yX9_path) (in_r8 _ (List.mem_of_getElem? (i := 11) rfl)))⟩
theorem cw_X9_73 {R : Room} {s : State} {args : Array Value} {rm : Room} {mc ms : Nat} (hts : ∀ w ∈ big, w.before args s = true) (hrc : rm.cells = mc) (hrs : rm.slots = ms) (hR : rm.frames + 1 ≤ R.frames ∧ 8 + (1 + 11) + rm.locals ≤ R.locals) : CallB R s args RX9 73 yX9_isPlace cX9_isPlace 1 (some .boolean) wyX9_isPlace rm mc ms 1 ∧ (Cond.static yX9_isPlace).before args s = true := ⟨callB_of 1 hts (big_code ok_X9_isPlace) rfl hrc hrs (hts (.initialized RX9) (in_r1 _ (List.mem_of_getElem? (i := 2) rfl))) (hts (.methodLink RX9 73 yX9_isPlace) (in_r8 _ (List.mem_of_getElem? (i := 13) rfl))) (by decide +kernel) hR, (hts (.static yX9_isPlace) (in_r8 _ (List.mem_of_getElem? (i := 14) rfl)))⟩
theorem cw_X9_77 {R : Room} {s : State} {args : Array Value} {rm : Room} {mc ms : Nat} (hts : ∀ w ∈ big, w.before args s = true) (hrc : rm.cells = mc) (hrs : rm.slots = ms) (hR : rm.frames + 1 ≤ R.frames ∧ 8 + (3 + 11) + rm.locals ≤ R.locals) : CallB R s args RX9 77 yX9_isWithin cX9_isWithin 3 (some .boolean) wyX9_isWithin rm mc ms 3 ∧ (Cond.static yX9_isWithin).before args s = true := ⟨callB_of 3 hts (big_code ok_X9_isWithin) rfl hrc hrs (hts (.initialized RX9) (in_r1 _ (List.mem_of_getElem? (i := 2) rfl))) (hts (.methodLink RX9 77 yX9_isWithin) (in_r8 _ (List.mem_of_getElem? (i := 16) rfl))) (by decide +kernel) hR, (hts (.static yX9_isWithin) (in_r8 _ (List.mem_of_getElem? (i := 17) rfl)))⟩
theorem cw_X9_81 {R : Room} {s : State} {args : Array Value} {rm : Room} {mc ms : Nat} (hts : ∀ w ∈ big, w.before args s = true) (hrc : rm.cells = mc) (hrs : rm.slots = ms) (hR : rm.frames + 1 ≤ R.frames ∧ 8 + (4 + 11) + rm.locals ≤ R.locals) : CallW R s args RX9 RX2 81 yX2_joining cX2_joining 4 (some .int) wyX2_joining rm mc ms 2 := ⟨callB_of 2 hts (big_code ok_X2_joining) rfl hrc hrs (hts (.initialized RX2) (in_r1 _ (List.mem_of_getElem? (i := 14) rfl))) (hts (.methodLink RX9 81 yX2_joining) (in_r8 _ (List.mem_of_getElem? (i := 19) rfl))) (by decide +kernel) hR, (hts (.instanceMethod yX2_joining) (in_r8 _ (List.mem_of_getElem? (i := 20) rfl))), (hts (.selects RX2 yX2_joining yX2_joining) (in_r8 _ (List.mem_of_getElem? (i := 21) rfl)))⟩
theorem cw_X2_44 {R : Room} {s : State} {args : Array Value} {rm : Room} {mc ms : Nat} (hts : ∀ w ∈ big, w.before args s = true) (hrc : rm.cells = mc) (hrs : rm.slots = ms) (hR : rm.frames + 1 ≤ R.frames ∧ 8 + (2 + 11) + rm.locals ≤ R.locals) : CallW R s args RX2 RX2 44 yX2_pathsAt cX2_pathsAt 2 (some .int) wyX2_pathsAt rm mc ms 1 := ⟨callB_of 1 hts (big_code ok_X2_pathsAt) rfl hrc hrs (hts (.initialized RX2) (in_r1 _ (List.mem_of_getElem? (i := 14) rfl))) (hts (.methodLink RX2 44 yX2_pathsAt) (in_r8 _ (List.mem_of_getElem? (i := 23) rfl))) (by decide +kernel) hR, (hts (.instanceMethod yX2_pathsAt) (in_r9 _ (List.mem_of_getElem? (i := 0) rfl))), (hts (.selects RX2 yX2_pathsAt yX2_pathsAt) (in_r9 _ (List.mem_of_getElem? (i := 1) rfl)))⟩
theorem cw_X2_58 {R : Room} {s : State} {args : Array Value} {rm : Room} {mc ms : Nat} (hts : ∀ w ∈ big, w.before args s = true) (hrc : rm.cells = mc) (hrs : rm.slots = ms) (hR : rm.frames + 1 ≤ R.frames ∧ 8 + (2 + 11) + rm.locals ≤ R.locals) : CallW R s args RX2 RX5 58 yX5_get cX5_get 2 (some .int) wyX5_get rm mc ms 1 := ⟨callB_of 1 hts (big_code ok_X5_get) rfl hrc hrs (hts (.initialized RX5) (in_r3 _ (List.mem_of_getElem? (i := 1) rfl))) (hts (.methodLink RX2 58 yX5_get) (in_r9 _ (List.mem_of_getElem? (i := 3) rfl))) (by decide +kernel) hR, (hts (.instanceMethod yX5_get) (in_r9 _ (List.mem_of_getElem? (i := 4) rfl))), (hts (.selects RX5 yX5_get yX5_get) (in_r9 _ (List.mem_of_getElem? (i := 5) rfl)))⟩
theorem cw_X2_61 {R : Room} {s : State} {args : Array Value} {rm : Room} {mc ms : Nat} (hts : ∀ w ∈ big, w.before args s = true) (hrc : rm.cells = mc) (hrs : rm.slots = ms) (hR : rm.frames + 1 ≤ R.frames ∧ 8 + (1 + 11) + rm.locals ≤ R.locals) : CallB R s args RX2 61 yJ6_bitCount_0f7a4 cJ6_bitCount_0f7a4 1 (some .int) wyJ6_bitCount_0f7a4 rm mc ms 1 ∧ (Cond.static yJ6_bitCount_0f7a4).before args s = true := ⟨callB_of 1 hts (big_code ok_J6_bitCount_0f7a4) rfl hrc hrs (hts (.initialized RJ6) (in_r9 _ (List.mem_of_getElem? (i := 9) rfl))) (hts (.methodLink RX2 61 yJ6_bitCount_0f7a4) (in_r9 _ (List.mem_of_getElem? (i := 7) rfl))) (by decide +kernel) hR, (hts (.static yJ6_bitCount_0f7a4) (in_r9 _ (List.mem_of_getElem? (i := 8) rfl)))⟩
theorem cw_X9_85 {R : Room} {s : State} {args : Array Value} {rm : Room} {mc ms : Nat} (hts : ∀ w ∈ big, w.before args s = true) (hrc : rm.cells = mc) (hrs : rm.slots = ms) (hR : rm.frames + 1 ≤ R.frames ∧ 8 + (1 + 11) + rm.locals ≤ R.locals) : CallW R s args RX9 RX2 85 yX2_pathCount cX2_pathCount 1 (some .int) wyX2_pathCount rm mc ms 0 := ⟨callB_of 0 hts (big_code ok_X2_pathCount) rfl hrc hrs (hts (.initialized RX2) (in_r1 _ (List.mem_of_getElem? (i := 14) rfl))) (hts (.methodLink RX9 85 yX2_pathCount) (in_r9 _ (List.mem_of_getElem? (i := 14) rfl))) (by decide +kernel) hR, (hts (.instanceMethod yX2_pathCount) (in_r9 _ (List.mem_of_getElem? (i := 15) rfl))), (hts (.selects RX2 yX2_pathCount yX2_pathCount) (in_r9 _ (List.mem_of_getElem? (i := 16) rfl)))⟩
theorem cw_X2_33 {R : Room} {s : State} {args : Array Value} {rm : Room} {mc ms : Nat} (hts : ∀ w ∈ big, w.before args s = true) (hrc : rm.cells = mc) (hrs : rm.slots = ms) (hR : rm.frames + 1 ≤ R.frames ∧ 8 + (1 + 11) + rm.locals ≤ R.locals) : CallW R s args RX2 RX5 33 yX5_size cX5_size 1 (some .int) wyX5_size rm mc ms 0 := ⟨callB_of 0 hts (big_code ok_X5_size) rfl hrc hrs (hts (.initialized RX5) (in_r3 _ (List.mem_of_getElem? (i := 1) rfl))) (hts (.methodLink RX2 33 yX5_size) (in_r9 _ (List.mem_of_getElem? (i := 18) rfl))) (by decide +kernel) hR, (hts (.instanceMethod yX5_size) (in_r9 _ (List.mem_of_getElem? (i := 19) rfl))), (hts (.selects RX5 yX5_size yX5_size) (in_r9 _ (List.mem_of_getElem? (i := 20) rfl)))⟩
theorem cw_X9_89 {R : Room} {s : State} {args : Array Value} {rm : Room} {mc ms : Nat} (hts : ∀ w ∈ big, w.before args s = true) (hrc : rm.cells = mc) (hrs : rm.slots = ms) (hR : rm.frames + 1 ≤ R.frames ∧ 8 + (5 + 11) + rm.locals ≤ R.locals) : CallW R s args RX9 RX2 89 yX2_join cX2_join 5 (some .int) wyX2_join rm mc ms 3 := ⟨callB_of 3 hts (big_code ok_X2_join) rfl hrc hrs (hts (.initialized RX2) (in_r1 _ (List.mem_of_getElem? (i := 14) rfl))) (hts (.methodLink RX9 89 yX2_join) (in_r9 _ (List.mem_of_getElem? (i := 22) rfl))) (by decide +kernel) hR, (hts (.instanceMethod yX2_join) (in_r9 _ (List.mem_of_getElem? (i := 23) rfl))), (hts (.selects RX2 yX2_join yX2_join) (in_r10 _ (List.mem_of_getElem? (i := 0) rfl)))⟩
theorem cw_X2_37 {R : Room} {s : State} {args : Array Value} {rm : Room} {mc ms : Nat} (hts : ∀ w ∈ big, w.before args s = true) (hrc : rm.cells = mc) (hrs : rm.slots = ms) (hR : rm.frames + 1 ≤ R.frames ∧ 8 + (1 + 11) + rm.locals ≤ R.locals) : CallW R s args RX2 RX2 37 yX2_pathCount cX2_pathCount 1 (some .int) wyX2_pathCount rm mc ms 0 := ⟨callB_of 0 hts (big_code ok_X2_pathCount) rfl hrc hrs (hts (.initialized RX2) (in_r1 _ (List.mem_of_getElem? (i := 14) rfl))) (hts (.methodLink RX2 37 yX2_pathCount) (in_r10 _ (List.mem_of_getElem? (i := 2) rfl))) (by decide +kernel) hR, (hts (.instanceMethod yX2_pathCount) (in_r9 _ (List.mem_of_getElem? (i := 15) rfl))), (hts (.selects RX2 yX2_pathCount yX2_pathCount) (in_r9 _ (List.mem_of_getElem? (i := 16) rfl)))⟩
theorem cw_X2_40 {R : Room} {s : State} {args : Array Value} {rm : Room} {mc ms : Nat} (hts : ∀ w ∈ big, w.before args s = true) (hrc : rm.cells = mc) (hrs : rm.slots = ms) (hR : rm.frames + 1 ≤ R.frames ∧ 8 + (2 + 11) + rm.locals ≤ R.locals) : CallW R s args RX2 RX5 40 yX5_push cX5_push 2 (some .int) wyX5_push rm mc ms 1 := ⟨callB_of 1 hts (big_code ok_X5_push) rfl hrc hrs (hts (.initialized RX5) (in_r3 _ (List.mem_of_getElem? (i := 1) rfl))) (hts (.methodLink RX2 40 yX5_push) (in_r10 _ (List.mem_of_getElem? (i := 3) rfl))) (by decide +kernel) hR, (hts (.instanceMethod yX5_push) (in_r10 _ (List.mem_of_getElem? (i := 4) rfl))), (hts (.selects RX5 yX5_push yX5_push) (in_r10 _ (List.mem_of_getElem? (i := 5) rfl)))⟩
theorem cw_X2_50 {R : Room} {s : State} {args : Array Value} {rm : Room} {mc ms : Nat} (hts : ∀ w ∈ big, w.before args s = true) (hrc : rm.cells = mc) (hrs : rm.slots = ms) (hR : rm.frames + 1 ≤ R.frames ∧ 8 + (3 + 11) + rm.locals ≤ R.locals) : CallW R s args RX2 RX5 50 yX5_put cX5_put 3 none wyX5_put rm mc ms 2 := ⟨callB_of 2 hts (big_code ok_X5_put) rfl hrc hrs (hts (.initialized RX5) (in_r3 _ (List.mem_of_getElem? (i := 1) rfl))) (hts (.methodLink RX2 50 yX5_put) (in_r10 _ (List.mem_of_getElem? (i := 9) rfl))) (by decide +kernel) hR, (hts (.instanceMethod yX5_put) (in_r10 _ (List.mem_of_getElem? (i := 10) rfl))), (hts (.selects RX5 yX5_put yX5_put) (in_r10 _ (List.mem_of_getElem? (i := 11) rfl)))⟩
theorem cw_L_17 {R : Room} {s : State} {args : Array Value} {rm : Room} {mc ms : Nat} (hts : ∀ w ∈ big, w.before args s = true) (hrc : rm.cells = mc) (hrs : rm.slots = ms) (hR : rm.frames + 1 ≤ R.frames ∧ 8 + (4 + 11) + rm.locals ≤ R.locals) : CallW R s args RL RX10 17 yX10_path cX10_path 4 (some .int) wyX10_path rm mc ms 3 := ⟨callB_of 3 hts (big_code ok_X10_path) rfl hrc hrs (hts (.initialized RX10) (in_r1 _ (List.mem_of_getElem? (i := 5) rfl))) (hts (.methodLink RL 17 yX10_path) (in_r10 _ (List.mem_of_getElem? (i := 13) rfl))) (by decide +kernel) hR, (hts (.instanceMethod yX10_path) (in_r10 _ (List.mem_of_getElem? (i := 14) rfl))), (hts (.selects RX10 yX10_path yX10_path) (in_r10 _ (List.mem_of_getElem? (i := 15) rfl)))⟩
theorem cw_X10_101 {R : Room} {s : State} {args : Array Value} {rm : Room} {mc ms : Nat} (hts : ∀ w ∈ big, w.before args s = true) (hrc : rm.cells = mc) (hrs : rm.slots = ms) (hR : rm.frames + 1 ≤ R.frames ∧ 8 + (1 + 11) + rm.locals ≤ R.locals) : CallB R s args RX10 101 yX10_isPlace cX10_isPlace 1 (some .boolean) wyX10_isPlace rm mc ms 1 ∧ (Cond.static yX10_isPlace).before args s = true := ⟨callB_of 1 hts (big_code ok_X10_isPlace) rfl hrc hrs (hts (.initialized RX10) (in_r1 _ (List.mem_of_getElem? (i := 5) rfl))) (hts (.methodLink RX10 101 yX10_isPlace) (in_r10 _ (List.mem_of_getElem? (i := 18) rfl))) (by decide +kernel) hR, (hts (.static yX10_isPlace) (in_r10 _ (List.mem_of_getElem? (i := 19) rfl)))⟩
theorem cw_X10_90 {R : Room} {s : State} {args : Array Value} {rm : Room} {mc ms : Nat} (hts : ∀ w ∈ big, w.before args s = true) (hrc : rm.cells = mc) (hrs : rm.slots = ms) (hR : rm.frames + 1 ≤ R.frames ∧ 8 + (3 + 11) + rm.locals ≤ R.locals) : CallB R s args RX10 90 yX10_in cX10_in 3 (some .boolean) wyX10_in rm mc ms 3 ∧ (Cond.static yX10_in).before args s = true := ⟨callB_of 3 hts (big_code ok_X10_in) rfl hrc hrs (hts (.initialized RX10) (in_r1 _ (List.mem_of_getElem? (i := 5) rfl))) (hts (.methodLink RX10 90 yX10_in) (in_r10 _ (List.mem_of_getElem? (i := 21) rfl))) (by decide +kernel) hR, (hts (.static yX10_in) (in_r10 _ (List.mem_of_getElem? (i := 22) rfl)))⟩
theorem cw_X10_105 {R : Room} {s : State} {args : Array Value} {rm : Room} {mc ms : Nat} (hts : ∀ w ∈ big, w.before args s = true) (hrc : rm.cells = mc) (hrs : rm.slots = ms) (hR : rm.frames + 1 ≤ R.frames ∧ 8 + (5 + 11) + rm.locals ≤ R.locals) : CallW R s args RX10 RX10 105 yX10_joins cX10_joins 5 (some .int) wyX10_joins rm mc ms 2 := ⟨callB_of 2 hts (big_code ok_X10_joins) rfl hrc hrs (hts (.initialized RX10) (in_r1 _ (List.mem_of_getElem? (i := 5) rfl))) (hts (.methodLink RX10 105 yX10_joins) (in_r11 _ (List.mem_of_getElem? (i := 0) rfl))) (by decide +kernel) hR, (hts (.instanceMethod yX10_joins) (in_r11 _ (List.mem_of_getElem? (i := 1) rfl))), (hts (.selects RX10 yX10_joins yX10_joins) (in_r11 _ (List.mem_of_getElem? (i := 2) rfl)))⟩
theorem cw_X10_97 {R : Room} {s : State} {args : Array Value} {rm : Room} {mc ms : Nat} (hts : ∀ w ∈ big, w.before args s = true) (hrc : rm.cells = mc) (hrs : rm.slots = ms) (hR : rm.frames + 1 ≤ R.frames ∧ 8 + (3 + 11) + rm.locals ≤ R.locals) : CallW R s args RX10 RX10 97 yX10_isAt cX10_isAt 3 (some .boolean) wyX10_isAt rm mc ms 2 := ⟨callB_of 2 hts (big_code ok_X10_isAt) rfl hrc hrs (hts (.initialized RX10) (in_r1 _ (List.mem_of_getElem? (i := 5) rfl))) (hts (.methodLink RX10 97 yX10_isAt) (in_r11 _ (List.mem_of_getElem? (i := 4) rfl))) (by decide +kernel) hR, (hts (.instanceMethod yX10_isAt) (in_r11 _ (List.mem_of_getElem? (i := 5) rfl))), (hts (.selects RX10 yX10_isAt yX10_isAt) (in_r11 _ (List.mem_of_getElem? (i := 6) rfl)))⟩
theorem cw_L_18 {R : Room} {s : State} {args : Array Value} {rm : Room} {mc ms : Nat} (hts : ∀ w ∈ big, w.before args s = true) (hrc : rm.cells = mc) (hrs : rm.slots = ms) (hR : rm.frames + 1 ≤ R.frames ∧ 8 + (2 + 11) + rm.locals ≤ R.locals) : CallW R s args RL RX9 18 yX9_weather cX9_weather 2 (some .int) wyX9_weather rm mc ms 1 := ⟨callB_of 1 hts (big_code ok_X9_weather) rfl hrc hrs (hts (.initialized RX9) (in_r1 _ (List.mem_of_getElem? (i := 2) rfl))) (hts (.methodLink RL 18 yX9_weather) (in_r11 _ (List.mem_of_getElem? (i := 8) rfl))) (by decide +kernel) hR, (hts (.instanceMethod yX9_weather) (in_r11 _ (List.mem_of_getElem? (i := 9) rfl))), (hts (.selects RX9 yX9_weather yX9_weather) (in_r11 _ (List.mem_of_getElem? (i := 10) rfl)))⟩
theorem cw_X9_93 {R : Room} {s : State} {args : Array Value} {rm : Room} {mc ms : Nat} (hts : ∀ w ∈ big, w.before args s = true) (hrc : rm.cells = mc) (hrs : rm.slots = ms) (hR : rm.frames + 1 ≤ R.frames ∧ 8 + (3 + 11) + rm.locals ≤ R.locals) : CallW R s args RX9 RX6 93 yX6_changeWeather cX6_changeWeather 3 (some .int) wyX6_changeWeather rm mc ms 1 := ⟨callB_of 1 hts (big_code ok_X6_changeWeather) rfl hrc hrs (hts (.initialized RX6) (in_r1 _ (List.mem_of_getElem? (i := 18) rfl))) (hts (.methodLink RX9 93 yX6_changeWeather) (in_r11 _ (List.mem_of_getElem? (i := 12) rfl))) (by decide +kernel) hR, (hts (.instanceMethod yX6_changeWeather) (in_r11 _ (List.mem_of_getElem? (i := 13) rfl))), (hts (.selects RX6 yX6_changeWeather yX6_changeWeather) (in_r11 _ (List.mem_of_getElem? (i := 14) rfl)))⟩
theorem cw_L_22 {R : Room} {s : State} {args : Array Value} {rm : Room} {mc ms : Nat} (hts : ∀ w ∈ big, w.before args s = true) (hrc : rm.cells = mc) (hrs : rm.slots = ms) (hR : rm.frames + 1 ≤ R.frames ∧ 8 + (3 + 11) + rm.locals ≤ R.locals) : CallW R s args RL RX10 22 yX10_weather cX10_weather 3 (some .int) wyX10_weather rm mc ms 1 := ⟨callB_of 1 hts (big_code ok_X10_weather) rfl hrc hrs (hts (.initialized RX10) (in_r1 _ (List.mem_of_getElem? (i := 5) rfl))) (hts (.methodLink RL 22 yX10_weather) (in_r11 _ (List.mem_of_getElem? (i := 16) rfl))) (by decide +kernel) hR, (hts (.instanceMethod yX10_weather) (in_r11 _ (List.mem_of_getElem? (i := 17) rfl))), (hts (.selects RX10 yX10_weather yX10_weather) (in_r11 _ (List.mem_of_getElem? (i := 18) rfl)))⟩
theorem cw_L_23 {R : Room} {s : State} {args : Array Value} {rm : Room} {mc ms : Nat} (hts : ∀ w ∈ big, w.before args s = true) (hrc : rm.cells = mc) (hrs : rm.slots = ms) (hR : rm.frames + 1 ≤ R.frames ∧ 8 + (2 + 11) + rm.locals ≤ R.locals) : CallW R s args RL RX9 23 yX9_days cX9_days 2 (some .int) wyX9_days rm mc ms 1 := ⟨callB_of 1 hts (big_code ok_X9_days) rfl hrc hrs (hts (.initialized RX9) (in_r1 _ (List.mem_of_getElem? (i := 2) rfl))) (hts (.methodLink RL 23 yX9_days) (in_r11 _ (List.mem_of_getElem? (i := 21) rfl))) (by decide +kernel) hR, (hts (.instanceMethod yX9_days) (in_r11 _ (List.mem_of_getElem? (i := 22) rfl))), (hts (.selects RX9 yX9_days yX9_days) (in_r11 _ (List.mem_of_getElem? (i := 23) rfl)))⟩
theorem cw_X9_97 {R : Room} {s : State} {args : Array Value} {rm : Room} {mc ms : Nat} (hts : ∀ w ∈ big, w.before args s = true) (hrc : rm.cells = mc) (hrs : rm.slots = ms) (hR : rm.frames + 1 ≤ R.frames ∧ 8 + (1 + 11) + rm.locals ≤ R.locals) : CallW R s args RX9 RX6 97 yX6_today cX6_today 1 (some .int) wyX6_today rm mc ms 0 := ⟨callB_of 0 hts (big_code ok_X6_today) rfl hrc hrs (hts (.initialized RX6) (in_r1 _ (List.mem_of_getElem? (i := 18) rfl))) (hts (.methodLink RX9 97 yX6_today) (in_r12 _ (List.mem_of_getElem? (i := 1) rfl))) (by decide +kernel) hR, (hts (.instanceMethod yX6_today) (in_r12 _ (List.mem_of_getElem? (i := 2) rfl))), (hts (.selects RX6 yX6_today yX6_today) (in_r12 _ (List.mem_of_getElem? (i := 3) rfl)))⟩
theorem cw_X9_100 {R : Room} {s : State} {args : Array Value} {rm : Room} {mc ms : Nat} (hts : ∀ w ∈ big, w.before args s = true) (hrc : rm.cells = mc) (hrs : rm.slots = ms) (hR : rm.frames + 1 ≤ R.frames ∧ 8 + (4 + 11) + rm.locals ≤ R.locals) : CallW R s args RX9 RX6 100 yX6_letDaysGoBy cX6_letDaysGoBy 4 (some .int) wyX6_letDaysGoBy rm mc ms 1 := ⟨callB_of 1 hts (big_code ok_X6_letDaysGoBy) rfl hrc hrs (hts (.initialized RX6) (in_r1 _ (List.mem_of_getElem? (i := 18) rfl))) (hts (.methodLink RX9 100 yX6_letDaysGoBy) (in_r12 _ (List.mem_of_getElem? (i := 5) rfl))) (by decide +kernel) hR, (hts (.instanceMethod yX6_letDaysGoBy) (in_r12 _ (List.mem_of_getElem? (i := 6) rfl))), (hts (.selects RX6 yX6_letDaysGoBy yX6_letDaysGoBy) (in_r12 _ (List.mem_of_getElem? (i := 7) rfl)))⟩
theorem cw_X6_56 {R : Room} {s : State} {args : Array Value} {rm : Room} {mc ms : Nat} (hts : ∀ w ∈ big, w.before args s = true) (hrc : rm.cells = mc) (hrs : rm.slots = ms) (hR : rm.frames + 1 ≤ R.frames ∧ 8 + (1 + 11) + rm.locals ≤ R.locals) : CallW R s args RX6 RX6 56 yX6_signCount cX6_signCount 1 (some .int) wyX6_signCount rm mc ms 0 := ⟨callB_of 0 hts (big_code ok_X6_signCount) rfl hrc hrs (hts (.initialized RX6) (in_r1 _ (List.mem_of_getElem? (i := 18) rfl))) (hts (.methodLink RX6 56 yX6_signCount) (in_r12 _ (List.mem_of_getElem? (i := 13) rfl))) (by decide +kernel) hR, (hts (.instanceMethod yX6_signCount) (in_r12 _ (List.mem_of_getElem? (i := 14) rfl))), (hts (.selects RX6 yX6_signCount yX6_signCount) (in_r12 _ (List.mem_of_getElem? (i := 15) rfl)))⟩
theorem cw_X6_52 {R : Room} {s : State} {args : Array Value} {rm : Room} {mc ms : Nat} (hts : ∀ w ∈ big, w.before args s = true) (hrc : rm.cells = mc) (hrs : rm.slots = ms) (hR : rm.frames + 1 ≤ R.frames ∧ 8 + (1 + 11) + rm.locals ≤ R.locals) : CallW R s args RX6 RX5 52 yX5_size cX5_size 1 (some .int) wyX5_size rm mc ms 0 := ⟨callB_of 0 hts (big_code ok_X5_size) rfl hrc hrs (hts (.initialized RX5) (in_r3 _ (List.mem_of_getElem? (i := 1) rfl))) (hts (.methodLink RX6 52 yX5_size) (in_r12 _ (List.mem_of_getElem? (i := 17) rfl))) (by decide +kernel) hR, (hts (.instanceMethod yX5_size) (in_r9 _ (List.mem_of_getElem? (i := 19) rfl))), (hts (.selects RX5 yX5_size yX5_size) (in_r9 _ (List.mem_of_getElem? (i := 20) rfl)))⟩
theorem cw_X6_59 {R : Room} {s : State} {args : Array Value} {rm : Room} {mc ms : Nat} (hts : ∀ w ∈ big, w.before args s = true) (hrc : rm.cells = mc) (hrs : rm.slots = ms) (hR : rm.frames + 1 ≤ R.frames ∧ 8 + (2 + 11) + rm.locals ≤ R.locals) : CallW R s args RX6 RX6 59 yX6_kindOf cX6_kindOf 2 (some .int) wyX6_kindOf rm mc ms 1 := ⟨callB_of 1 hts (big_code ok_X6_kindOf) rfl hrc hrs (hts (.initialized RX6) (in_r1 _ (List.mem_of_getElem? (i := 18) rfl))) (hts (.methodLink RX6 59 yX6_kindOf) (in_r12 _ (List.mem_of_getElem? (i := 18) rfl))) (by decide +kernel) hR, (hts (.instanceMethod yX6_kindOf) (in_r12 _ (List.mem_of_getElem? (i := 19) rfl))), (hts (.selects RX6 yX6_kindOf yX6_kindOf) (in_r12 _ (List.mem_of_getElem? (i := 20) rfl)))⟩
theorem cw_X6_63 {R : Room} {s : State} {args : Array Value} {rm : Room} {mc ms : Nat} (hts : ∀ w ∈ big, w.before args s = true) (hrc : rm.cells = mc) (hrs : rm.slots = ms) (hR : rm.frames + 1 ≤ R.frames ∧ 8 + (2 + 11) + rm.locals ≤ R.locals) : CallW R s args RX6 RX5 63 yX5_get cX5_get 2 (some .int) wyX5_get rm mc ms 1 := ⟨callB_of 1 hts (big_code ok_X5_get) rfl hrc hrs (hts (.initialized RX5) (in_r3 _ (List.mem_of_getElem? (i := 1) rfl))) (hts (.methodLink RX6 63 yX5_get) (in_r12 _ (List.mem_of_getElem? (i := 22) rfl))) (by decide +kernel) hR, (hts (.instanceMethod yX5_get) (in_r9 _ (List.mem_of_getElem? (i := 4) rfl))), (hts (.selects RX5 yX5_get yX5_get) (in_r9 _ (List.mem_of_getElem? (i := 5) rfl)))⟩
theorem cw_X6_72 {R : Room} {s : State} {args : Array Value} {rm : Room} {mc ms : Nat} (hts : ∀ w ∈ big, w.before args s = true) (hrc : rm.cells = mc) (hrs : rm.slots = ms) (hR : rm.frames + 1 ≤ R.frames ∧ 8 + (3 + 11) + rm.locals ≤ R.locals) : CallW R s args RX6 RX5 72 yX5_put cX5_put 3 none wyX5_put rm mc ms 2 := ⟨callB_of 2 hts (big_code ok_X5_put) rfl hrc hrs (hts (.initialized RX5) (in_r3 _ (List.mem_of_getElem? (i := 1) rfl))) (hts (.methodLink RX6 72 yX5_put) (in_r12 _ (List.mem_of_getElem? (i := 23) rfl))) (by decide +kernel) hR, (hts (.instanceMethod yX5_put) (in_r10 _ (List.mem_of_getElem? (i := 10) rfl))), (hts (.selects RX5 yX5_put yX5_put) (in_r10 _ (List.mem_of_getElem? (i := 11) rfl)))⟩
theorem cw_L_26 {R : Room} {s : State} {args : Array Value} {rm : Room} {mc ms : Nat} (hts : ∀ w ∈ big, w.before args s = true) (hrc : rm.cells = mc) (hrs : rm.slots = ms) (hR : rm.frames + 1 ≤ R.frames ∧ 8 + (4 + 11) + rm.locals ≤ R.locals) : CallW R s args RL RX10 26 yX10_days cX10_days 4 (some .int) wyX10_days rm mc ms 1 := ⟨callB_of 1 hts (big_code ok_X10_days) rfl hrc hrs (hts (.initialized RX10) (in_r1 _ (List.mem_of_getElem? (i := 5) rfl))) (hts (.methodLink RL 26 yX10_days) (in_r13 _ (List.mem_of_getElem? (i := 0) rfl))) (by decide +kernel) hR, (hts (.instanceMethod yX10_days) (in_r13 _ (List.mem_of_getElem? (i := 1) rfl))), (hts (.selects RX10 yX10_days yX10_days) (in_r13 _ (List.mem_of_getElem? (i := 2) rfl)))⟩
theorem cw_L_27 {R : Room} {s : State} {args : Array Value} {rm : Room} {mc ms : Nat} (hts : ∀ w ∈ big, w.before args s = true) (hrc : rm.cells = mc) (hrs : rm.slots = ms) (hR : rm.frames + 1 ≤ R.frames ∧ 8 + (7 + 11) + rm.locals ≤ R.locals) : CallW R s args RL RX9 27 yX9_sign cX9_sign 7 (some .int) wyX9_sign rm mc ms 6 := ⟨callB_of 6 hts (big_code ok_X9_sign) rfl hrc hrs (hts (.initialized RX9) (in_r1 _ (List.mem_of_getElem? (i := 2) rfl))) (hts (.methodLink RL 27 yX9_sign) (in_r13 _ (List.mem_of_getElem? (i := 6) rfl))) (by decide +kernel) hR, (hts (.instanceMethod yX9_sign) (in_r13 _ (List.mem_of_getElem? (i := 7) rfl))), (hts (.selects RX9 yX9_sign yX9_sign) (in_r13 _ (List.mem_of_getElem? (i := 8) rfl)))⟩
theorem cw_X9_103 {R : Room} {s : State} {args : Array Value} {rm : Room} {mc ms : Nat} (hts : ∀ w ∈ big, w.before args s = true) (hrc : rm.cells = mc) (hrs : rm.slots = ms) (hR : rm.frames + 1 ≤ R.frames ∧ 8 + (1 + 11) + rm.locals ≤ R.locals) : CallB R s args RX9 103 yX9_isOfPath cX9_isOfPath 1 (some .boolean) wyX9_isOfPath rm mc ms 1 ∧ (Cond.static yX9_isOfPath).before args s = true := ⟨callB_of 1 hts (big_code ok_X9_isOfPath) rfl hrc hrs (hts (.initialized RX9) (in_r1 _ (List.mem_of_getElem? (i := 2) rfl))) (hts (.methodLink RX9 103 yX9_isOfPath) (in_r13 _ (List.mem_of_getElem? (i := 10) rfl))) (by decide +kernel) hR, (hts (.static yX9_isOfPath) (in_r13 _ (List.mem_of_getElem? (i := 11) rfl)))⟩
theorem cw_X9_106 {R : Room} {s : State} {args : Array Value} {rm : Room} {mc ms : Nat} (hts : ∀ w ∈ big, w.before args s = true) (hrc : rm.cells = mc) (hrs : rm.slots = ms) (hR : rm.frames + 1 ≤ R.frames ∧ 8 + (3 + 11) + rm.locals ≤ R.locals) : CallW R s args RX9 RX2 106 yX2_touches cX2_touches 3 (some .boolean) wyX2_touches rm mc ms 2 := ⟨callB_of 2 hts (big_code ok_X2_touches) rfl hrc hrs (hts (.initialized RX2) (in_r1 _ (List.mem_of_getElem? (i := 14) rfl))) (hts (.methodLink RX9 106 yX2_touches) (in_r13 _ (List.mem_of_getElem? (i := 13) rfl))) (by decide +kernel) hR, (hts (.instanceMethod yX2_touches) (in_r13 _ (List.mem_of_getElem? (i := 14) rfl))), (hts (.selects RX2 yX2_touches yX2_touches) (in_r13 _ (List.mem_of_getElem? (i := 15) rfl)))⟩
theorem cw_X9_110 {R : Room} {s : State} {args : Array Value} {rm : Room} {mc ms : Nat} (hts : ∀ w ∈ big, w.before args s = true) (hrc : rm.cells = mc) (hrs : rm.slots = ms) (hR : rm.frames + 1 ≤ R.frames ∧ 8 + (2 + 11) + rm.locals ≤ R.locals) : CallB R s args RX9 110 yX9_isSignValue cX9_isSignValue 2 (some .boolean) wyX9_isSignValue rm mc ms 2 ∧ (Cond.static yX9_isSignValue).before args s = true := ⟨callB_of 2 hts (big_code ok_X9_isSignValue) rfl hrc hrs (hts (.initialized RX9) (in_r1 _ (List.mem_of_getElem? (i := 2) rfl))) (hts (.methodLink RX9 110 yX9_isSignValue) (in_r13 _ (List.mem_of_getElem? (i := 17) rfl))) (by decide +kernel) hR, (hts (.static yX9_isSignValue) (in_r13 _ (List.mem_of_getElem? (i := 18) rfl)))⟩
theorem cw_X9_232 {R : Room} {s : State} {args : Array Value} {rm : Room} {mc ms : Nat} (hts : ∀ w ∈ big, w.before args s = true) (hrc : rm.cells = mc) (hrs : rm.slots = ms) (hR : rm.frames + 1 ≤ R.frames ∧ 8 + (1 + 11) + rm.locals ≤ R.locals) : CallB R s args RX9 232 yX9_isColour cX9_isColour 1 (some .boolean) wyX9_isColour rm mc ms 1 ∧ (Cond.static yX9_isColour).before args s = true := ⟨callB_of 1 hts (big_code ok_X9_isColour) rfl hrc hrs (hts (.initialized RX9) (in_r1 _ (List.mem_of_getElem? (i := 2) rfl))) (hts (.methodLink RX9 232 yX9_isColour) (in_r13 _ (List.mem_of_getElem? (i := 20) rfl))) (by decide +kernel) hR, (hts (.static yX9_isColour) (in_r13 _ (List.mem_of_getElem? (i := 21) rfl)))⟩
theorem cw_X9_113 {R : Room} {s : State} {args : Array Value} {rm : Room} {mc ms : Nat} (hts : ∀ w ∈ big, w.before args s = true) (hrc : rm.cells = mc) (hrs : rm.slots = ms) (hR : rm.frames + 1 ≤ R.frames ∧ 8 + (2 + 11) + rm.locals ≤ R.locals) : CallW R s args RX9 RX2 113 yX2_pathsAt cX2_pathsAt 2 (some .int) wyX2_pathsAt rm mc ms 1 := ⟨callB_of 1 hts (big_code ok_X2_pathsAt) rfl hrc hrs (hts (.initialized RX2) (in_r1 _ (List.mem_of_getElem? (i := 14) rfl))) (hts (.methodLink RX9 113 yX2_pathsAt) (in_r13 _ (List.mem_of_getElem? (i := 23) rfl))) (by decide +kernel) hR, (hts (.instanceMethod yX2_pathsAt) (in_r9 _ (List.mem_of_getElem? (i := 0) rfl))), (hts (.selects RX2 yX2_pathsAt yX2_pathsAt) (in_r9 _ (List.mem_of_getElem? (i := 1) rfl)))⟩
theorem cw_X9_116 {R : Room} {s : State} {args : Array Value} {rm : Room} {mc ms : Nat} (hts : ∀ w ∈ big, w.before args s = true) (hrc : rm.cells = mc) (hrs : rm.slots = ms) (hR : rm.frames + 1 ≤ R.frames ∧ 8 + (1 + 11) + rm.locals ≤ R.locals) : CallW R s args RX9 RX6 116 yX6_signCount cX6_signCount 1 (some .int) wyX6_signCount rm mc ms 0 := ⟨callB_of 0 hts (big_code ok_X6_signCount) rfl hrc hrs (hts (.initialized RX6) (in_r1 _ (List.mem_of_getElem? (i := 18) rfl))) (hts (.methodLink RX9 116 yX6_signCount) (in_r14 _ (List.mem_of_getElem? (i := 0) rfl))) (by decide +kernel) hR, (hts (.instanceMethod yX6_signCount) (in_r12 _ (List.mem_of_getElem? (i := 14) rfl))), (hts (.selects RX6 yX6_signCount yX6_signCount) (in_r12 _ (List.mem_of_getElem? (i := 15) rfl)))⟩
theorem cw_X9_119 {R : Room} {s : State} {args : Array Value} {rm : Room} {mc ms : Nat} (hts : ∀ w ∈ big, w.before args s = true) (hrc : rm.cells = mc) (hrs : rm.slots = ms) (hR : rm.frames + 1 ≤ R.frames ∧ 8 + (8 + 11) + rm.locals ≤ R.locals) : CallW R s args RX9 RX6 119 yX6_lay cX6_lay 8 (some .int) wyX6_lay rm mc ms 6 := ⟨callB_of 6 hts (big_code ok_X6_lay) rfl hrc hrs (hts (.initialized RX6) (in_r1 _ (List.mem_of_getElem? (i := 18) rfl))) (hts (.methodLink RX9 119 yX6_lay) (in_r14 _ (List.mem_of_getElem? (i := 1) rfl))) (by decide +kernel) hR, (hts (.instanceMethod yX6_lay) (in_r14 _ (List.mem_of_getElem? (i := 2) rfl))), (hts (.selects RX6 yX6_lay yX6_lay) (in_r14 _ (List.mem_of_getElem? (i := 3) rfl)))⟩
theorem cw_X6_76 {R : Room} {s : State} {args : Array Value} {rm : Room} {mc ms : Nat} (hts : ∀ w ∈ big, w.before args s = true) (hrc : rm.cells = mc) (hrs : rm.slots = ms) (hR : rm.frames + 1 ≤ R.frames ∧ 8 + (2 + 11) + rm.locals ≤ R.locals) : CallW R s args RX6 RX5 76 yX5_push cX5_push 2 (some .int) wyX5_push rm mc ms 1 := ⟨callB_of 1 hts (big_code ok_X5_push) rfl hrc hrs (hts (.initialized RX5) (in_r3 _ (List.mem_of_getElem? (i := 1) rfl))) (hts (.methodLink RX6 76 yX5_push) (in_r14 _ (List.mem_of_getElem? (i := 6) rfl))) (by decide +kernel) hR, (hts (.instanceMethod yX5_push) (in_r10 _ (List.mem_of_getElem? (i := 4) rfl))), (hts (.selects RX5 yX5_push yX5_push) (in_r10 _ (List.mem_of_getElem? (i := 5) rfl)))⟩
theorem cw_L_31 {R : Room} {s : State} {args : Array Value} {rm : Room} {mc ms : Nat} (hts : ∀ w ∈ big, w.before args s = true) (hrc : rm.cells = mc) (hrs : rm.slots = ms) (hR : rm.frames + 1 ≤ R.frames ∧ 8 + (7 + 11) + rm.locals ≤ R.locals) : CallW R s args RL RX10 31 yX10_sign cX10_sign 7 (some .int) wyX10_sign rm mc ms 6 := ⟨callB_of 6 hts (big_code ok_X10_sign) rfl hrc hrs (hts (.initialized RX10) (in_r1 _ (List.mem_of_getElem? (i := 5) rfl))) (hts (.methodLink RL 31 yX10_sign) (in_r14 _ (List.mem_of_getElem? (i := 7) rfl))) (by decide +kernel) hR, (hts (.instanceMethod yX10_sign) (in_r14 _ (List.mem_of_getElem? (i := 8) rfl))), (hts (.selects RX10 yX10_sign yX10_sign) (in_r14 _ (List.mem_of_getElem? (i := 9) rfl)))⟩
theorem cw_X10_118 {R : Room} {s : State} {args : Array Value} {rm : Room} {mc ms : Nat} (hts : ∀ w ∈ big, w.before args s = true) (hrc : rm.cells = mc) (hrs : rm.slots = ms) (hR : rm.frames + 1 ≤ R.frames ∧ 8 + (4 + 11) + rm.locals ≤ R.locals) : CallW R s args RX10 RX10 118 yX10_pathsAt cX10_pathsAt 4 (some .int) wyX10_pathsAt rm mc ms 1 := ⟨callB_of 1 hts (big_code ok_X10_pathsAt) rfl hrc hrs (hts (.initialized RX10) (in_r1 _ (List.mem_of_getElem? (i := 5) rfl))) (hts (.methodLink RX10 118 yX10_pathsAt) (in_r14 _ (List.mem_of_getElem? (i := 11) rfl))) (by decide +kernel) hR, (hts (.instanceMethod yX10_pathsAt) (in_r14 _ (List.mem_of_getElem? (i := 12) rfl))), (hts (.selects RX10 yX10_pathsAt yX10_pathsAt) (in_r14 _ (List.mem_of_getElem? (i := 13) rfl)))⟩
theorem cw_L_32 {R : Room} {s : State} {args : Array Value} {rm : Room} {mc ms : Nat} (hts : ∀ w ∈ big, w.before args s = true) (hrc : rm.cells = mc) (hrs : rm.slots = ms) (hR : rm.frames + 1 ≤ R.frames ∧ 8 + (3 + 11) + rm.locals ≤ R.locals) : CallW R s args RL RX9 32 yX9_turn cX9_turn 3 (some .int) wyX9_turn rm mc ms 2 := ⟨callB_of 2 hts (big_code ok_X9_turn) rfl hrc hrs (hts (.initialized RX9) (in_r1 _ (List.mem_of_getElem? (i := 2) rfl))) (hts (.methodLink RL 32 yX9_turn) (in_r14 _ (List.mem_of_getElem? (i := 15) rfl))) (by decide +kernel) hR, (hts (.instanceMethod yX9_turn) (in_r14 _ (List.mem_of_getElem? (i := 16) rfl))), (hts (.selects RX9 yX9_turn yX9_turn) (in_r14 _ (List.mem_of_getElem? (i := 17) rfl)))⟩
theorem cw_X9_123 {R : Room} {s : State} {args : Array Value} {rm : Room} {mc ms : Nat} (hts : ∀ w ∈ big, w.before args s = true) (hrc : rm.cells = mc) (hrs : rm.slots = ms) (hR : rm.frames + 1 ≤ R.frames ∧ 8 + (2 + 11) + rm.locals ≤ R.locals) : CallW R s args RX9 RX6 123 yX6_placeOf cX6_placeOf 2 (some .int) wyX6_placeOf rm mc ms 1 := ⟨callB_of 1 hts (big_code ok_X6_placeOf) rfl hrc hrs (hts (.initialized RX6) (in_r1 _ (List.mem_of_getElem? (i := 18) rfl))) (hts (.methodLink RX9 123 yX6_placeOf) (in_r14 _ (List.mem_of_getElem? (i := 19) rfl))) (by decide +kernel) hR, (hts (.instanceMethod yX6_placeOf) (in_r14 _ (List.mem_of_getElem? (i := 20) rfl))), (hts (.selects RX6 yX6_placeOf yX6_placeOf) (in_r14 _ (List.mem_of_getElem? (i := 21) rfl)))⟩
theorem cw_X9_126 {R : Room} {s : State} {args : Array Value} {rm : Room} {mc ms : Nat} (hts : ∀ w ∈ big, w.before args s = true) (hrc : rm.cells = mc) (hrs : rm.slots = ms) (hR : rm.frames + 1 ≤ R.frames ∧ 8 + (2 + 11) + rm.locals ≤ R.locals) : CallW R s args RX9 RX6 126 yX6_kindOf cX6_kindOf 2 (some .int) wyX6_kindOf rm mc ms 1 := ⟨callB_of 1 hts (big_code ok_X6_kindOf) rfl hrc hrs (hts (.initialized RX6) (in_r1 _ (List.mem_of_getElem? (i := 18) rfl))) (hts (.methodLink RX9 126 yX6_kindOf) (in_r14 _ (List.mem_of_getElem? (i := 23) rfl))) (by decide +kernel) hR, (hts (.instanceMethod yX6_kindOf) (in_r12 _ (List.mem_of_getElem? (i := 19) rfl))), (hts (.selects RX6 yX6_kindOf yX6_kindOf) (in_r12 _ (List.mem_of_getElem? (i := 20) rfl)))⟩
theorem cw_X9_129 {R : Room} {s : State} {args : Array Value} {rm : Room} {mc ms : Nat} (hts : ∀ w ∈ big, w.before args s = true) (hrc : rm.cells = mc) (hrs : rm.slots = ms) (hR : rm.frames + 1 ≤ R.frames ∧ 8 + (2 + 11) + rm.locals ≤ R.locals) : CallW R s args RX9 RX6 129 yX6_isGone cX6_isGone 2 (some .boolean) wyX6_isGone rm mc ms 1 := ⟨callB_of 1 hts (big_code ok_X6_isGone) rfl hrc hrs (hts (.initialized RX6) (in_r1 _ (List.mem_of_getElem? (i := 18) rfl))) (hts (.methodLink RX9 129 yX6_isGone) (in_r15 _ (List.mem_of_getElem? (i := 0) rfl))) (by decide +kernel) hR, (hts (.instanceMethod yX6_isGone) (in_r15 _ (List.mem_of_getElem? (i := 1) rfl))), (hts (.selects RX6 yX6_isGone yX6_isGone) (in_r15 _ (List.mem_of_getElem? (i := 2) rfl)))⟩
theorem cw_X9_132 {R : Room} {s : State} {args : Array Value} {rm : Room} {mc ms : Nat} (hts : ∀ w ∈ big, w.before args s = true) (hrc : rm.cells = mc) (hrs : rm.slots = ms) (hR : rm.frames + 1 ≤ R.frames ∧ 8 + (2 + 11) + rm.locals ≤ R.locals) : CallW R s args RX9 RX6 132 yX6_valueOf cX6_valueOf 2 (some .int) wyX6_valueOf rm mc ms 1 := ⟨callB_of 1 hts (big_code ok_X6_valueOf) rfl hrc hrs (hts (.initialized RX6) (in_r1 _ (List.mem_of_getElem? (i := 18) rfl))) (hts (.methodLink RX9 132 yX6_valueOf) (in_r15 _ (List.mem_of_getElem? (i := 4) rfl))) (by decide +kernel) hR, (hts (.instanceMethod yX6_valueOf) (in_r15 _ (List.mem_of_getElem? (i := 5) rfl))), (hts (.selects RX6 yX6_valueOf yX6_valueOf) (in_r15 _ (List.mem_of_getElem? (i := 6) rfl)))⟩
theorem cw_X9_135 {R : Room} {s : State} {args : Array Value} {rm : Room} {mc ms : Nat} (hts : ∀ w ∈ big, w.before args s = true) (hrc : rm.cells = mc) (hrs : rm.slots = ms) (hR : rm.frames + 1 ≤ R.frames ∧ 8 + (4 + 11) + rm.locals ≤ R.locals) : CallW R s args RX9 RX6 135 yX6_pointTo cX6_pointTo 4 (some .int) wyX6_pointTo rm mc ms 2 := ⟨callB_of 2 hts (big_code ok_X6_pointTo) rfl hrc hrs (hts (.initialized RX6) (in_r1 _ (List.mem_of_getElem? (i := 18) rfl))) (hts (.methodLink RX9 135 yX6_pointTo) (in_r15 _ (List.mem_of_getElem? (i := 8) rfl))) (by decide +kernel) hR, (hts (.instanceMethod yX6_pointTo) (in_r15 _ (List.mem_of_getElem? (i := 9) rfl))), (hts (.selects RX6 yX6_pointTo yX6_pointTo) (in_r15 _ (List.mem_of_getElem? (i := 10) rfl)))⟩
theorem cw_X6_80 {R : Room} {s : State} {args : Array Value} {rm : Room} {mc ms : Nat} (hts : ∀ w ∈ big, w.before args s = true) (hrc : rm.cells = mc) (hrs : rm.slots = ms) (hR : rm.frames + 1 ≤ R.frames ∧ 8 + (2 + 11) + rm.locals ≤ R.locals) : CallW R s args RX6 RX6 80 yX6_valueOf cX6_valueOf 2 (some .int) wyX6_valueOf rm mc ms 1 := ⟨callB_of 1 hts (big_code ok_X6_valueOf) rfl hrc hrs (hts (.initialized RX6) (in_r1 _ (List.mem_of_getElem? (i := 18) rfl))) (hts (.methodLink RX6 80 yX6_valueOf) (in_r15 _ (List.mem_of_getElem? (i := 12) rfl))) (by decide +kernel) hR, (hts (.instanceMethod yX6_valueOf) (in_r15 _ (List.mem_of_getElem? (i := 5) rfl))), (hts (.selects RX6 yX6_valueOf yX6_valueOf) (in_r15 _ (List.mem_of_getElem? (i := 6) rfl)))⟩
theorem cw_L_36 {R : Room} {s : State} {args : Array Value} {rm : Room} {mc ms : Nat} (hts : ∀ w ∈ big, w.before args s = true) (hrc : rm.cells = mc) (hrs : rm.slots = ms) (hR : rm.frames + 1 ≤ R.frames ∧ 8 + (4 + 11) + rm.locals ≤ R.locals) : CallW R s args RL RX10 36 yX10_turn cX10_turn 4 (some .int) wyX10_turn rm mc ms 2 := ⟨callB_of 2 hts (big_code ok_X10_turn) rfl hrc hrs (hts (.initialized RX10) (in_r1 _ (List.mem_of_getElem? (i := 5) rfl))) (hts (.methodLink RL 36 yX10_turn) (in_r15 _ (List.mem_of_getElem? (i := 13) rfl))) (by decide +kernel) hR, (hts (.instanceMethod yX10_turn) (in_r15 _ (List.mem_of_getElem? (i := 14) rfl))), (hts (.selects RX10 yX10_turn yX10_turn) (in_r15 _ (List.mem_of_getElem? (i := 15) rfl)))⟩
theorem cw_L_37 {R : Room} {s : State} {args : Array Value} {rm : Room} {mc ms : Nat} (hts : ∀ w ∈ big, w.before args s = true) (hrc : rm.cells = mc) (hrs : rm.slots = ms) (hR : rm.frames + 1 ≤ R.frames ∧ 8 + (3 + 11) + rm.locals ≤ R.locals) : CallW R s args RL RX9 37 yX9_at cX9_at 3 (some .int) wyX9_at rm mc ms 2 := ⟨callB_of 2 hts (big_code ok_X9_at) rfl hrc hrs (hts (.initialized RX9) (in_r1 _ (List.mem_of_getElem? (i := 2) rfl))) (hts (.methodLink RL 37 yX9_at) (in_r15 _ (List.mem_of_getElem? (i := 17) rfl))) (by decide +kernel) hR, (hts (.instanceMethod yX9_at) (in_r15 _ (List.mem_of_getElem? (i := 18) rfl))), (hts (.selects RX9 yX9_at yX9_at) (in_r15 _ (List.mem_of_getElem? (i := 19) rfl)))⟩
theorem cw_X9_138 {R : Room} {s : State} {args : Array Value} {rm : Room} {mc ms : Nat} (hts : ∀ w ∈ big, w.before args s = true) (hrc : rm.cells = mc) (hrs : rm.slots = ms) (hR : rm.frames + 1 ≤ R.frames ∧ 8 + (3 + 11) + rm.locals ≤ R.locals) : CallW R s args RX9 RX6 138 yX6_tell cX6_tell 3 (some .int) wyX6_tell rm mc ms 2 := ⟨callB_of 2 hts (big_code ok_X6_tell) rfl hrc hrs (hts (.initialized RX6) (in_r1 _ (List.mem_of_getElem? (i := 18) rfl))) (hts (.methodLink RX9 138 yX6_tell) (in_r15 _ (List.mem_of_getElem? (i := 21) rfl))) (by decide +kernel) hR, (hts (.instanceMethod yX6_tell) (in_r15 _ (List.mem_of_getElem? (i := 22) rfl))), (hts (.selects RX6 yX6_tell yX6_tell) (in_r15 _ (List.mem_of_getElem? (i := 23) rfl)))⟩
theorem cw_X6_83 {R : Room} {s : State} {args : Array Value} {rm : Room} {mc ms : Nat} (hts : ∀ w ∈ big, w.before args s = true) (hrc : rm.cells = mc) (hrs : rm.slots = ms) (hR : rm.frames + 1 ≤ R.frames ∧ 8 + (2 + 11) + rm.locals ≤ R.locals) : CallW R s args RX6 RX6 83 yX6_placeOf cX6_placeOf 2 (some .int) wyX6_placeOf rm mc ms 1 := ⟨callB_of 1 hts (big_code ok_X6_placeOf) rfl hrc hrs (hts (.initialized RX6) (in_r1 _ (List.mem_of_getElem? (i := 18) rfl))) (hts (.methodLink RX6 83 yX6_placeOf) (in_r16 _ (List.mem_of_getElem? (i := 1) rfl))) (by decide +kernel) hR, (hts (.instanceMethod yX6_placeOf) (in_r14 _ (List.mem_of_getElem? (i := 20) rfl))), (hts (.selects RX6 yX6_placeOf yX6_placeOf) (in_r14 _ (List.mem_of_getElem? (i := 21) rfl)))⟩
theorem cw_L_40 {R : Room} {s : State} {args : Array Value} {rm : Room} {mc ms : Nat} (hts : ∀ w ∈ big, w.before args s = true) (hrc : rm.cells = mc) (hrs : rm.slots = ms) (hR : rm.frames + 1 ≤ R.frames ∧ 8 + (3 + 11) + rm.locals ≤ R.locals) : CallW R s args RL RX10 40 yX10_at cX10_at 3 (some .int) wyX10_at rm mc ms 2 := ⟨callB_of 2 hts (big_code ok_X10_at) rfl hrc hrs (hts (.initialized RX10) (in_r1 _ (List.mem_of_getElem? (i := 5) rfl))) (hts (.methodLink RL 40 yX10_at) (in_r16 _ (List.mem_of_getElem? (i := 2) rfl))) (by decide +kernel) hR, (hts (.instanceMethod yX10_at) (in_r16 _ (List.mem_of_getElem? (i := 3) rfl))), (hts (.selects RX10 yX10_at yX10_at) (in_r16 _ (List.mem_of_getElem? (i := 4) rfl)))⟩
theorem cw_L_41 {R : Room} {s : State} {args : Array Value} {rm : Room} {mc ms : Nat} (hts : ∀ w ∈ big, w.before args s = true) (hrc : rm.cells = mc) (hrs : rm.slots = ms) (hR : rm.frames + 1 ≤ R.frames ∧ 8 + (3 + 11) + rm.locals ≤ R.locals) : CallW R s args RL RX9 41 yX9_set cX9_set 3 (some .int) wyX9_set rm mc ms 2 := ⟨callB_of 2 hts (big_code ok_X9_set) rfl hrc hrs (hts (.initialized RX9) (in_r1 _ (List.mem_of_getElem? (i := 2) rfl))) (hts (.methodLink RL 41 yX9_set) (in_r16 _ (List.mem_of_getElem? (i := 6) rfl))) (by decide +kernel) hR, (hts (.instanceMethod yX9_set) (in_r16 _ (List.mem_of_getElem? (i := 7) rfl))), (hts (.selects RX9 yX9_set yX9_set) (in_r16 _ (List.mem_of_getElem? (i := 8) rfl)))⟩
theorem cw_X9_141 {R : Room} {s : State} {args : Array Value} {rm : Room} {mc ms : Nat} (hts : ∀ w ∈ big, w.before args s = true) (hrc : rm.cells = mc) (hrs : rm.slots = ms) (hR : rm.frames + 1 ≤ R.frames ∧ 8 + (3 + 11) + rm.locals ≤ R.locals) : CallW R s args RX9 RX6 141 yX6_changeFog cX6_changeFog 3 (some .int) wyX6_changeFog rm mc ms 1 := ⟨callB_of 1 hts (big_code ok_X6_changeFog) rfl hrc hrs (hts (.initialized RX6) (in_r1 _ (List.mem_of_getElem? (i := 18) rfl))) (hts (.methodLink RX9 141 yX6_changeFog) (in_r16 _ (List.mem_of_getElem? (i := 10) rfl))) (by decide +kernel) hR, (hts (.instanceMethod yX6_changeFog) (in_r16 _ (List.mem_of_getElem? (i := 11) rfl))), (hts (.selects RX6 yX6_changeFog yX6_changeFog) (in_r16 _ (List.mem_of_getElem? (i := 12) rfl)))⟩
theorem cw_X9_144 {R : Room} {s : State} {args : Array Value} {rm : Room} {mc ms : Nat} (hts : ∀ w ∈ big, w.before args s = true) (hrc : rm.cells = mc) (hrs : rm.slots = ms) (hR : rm.frames + 1 ≤ R.frames ∧ 8 + (3 + 11) + rm.locals ≤ R.locals) : CallW R s args RX9 RX4 144 yX4_changeLeeway cX4_changeLeeway 3 (some .int) wyX4_changeLeeway rm mc ms 1 := ⟨callB_of 1 hts (big_code ok_X4_changeLeeway) rfl hrc hrs (hts (.initialized RX4) (in_r2 _ (List.mem_of_getElem? (i := 6) rfl))) (hts (.methodLink RX9 144 yX4_changeLeeway) (in_r16 _ (List.mem_of_getElem? (i := 14) rfl))) (by decide +kernel) hR, (hts (.instanceMethod yX4_changeLeeway) (in_r16 _ (List.mem_of_getElem? (i := 15) rfl))), (hts (.selects RX4 yX4_changeLeeway yX4_changeLeeway) (in_r16 _ (List.mem_of_getElem? (i := 16) rfl)))⟩
theorem cw_X9_147 {R : Room} {s : State} {args : Array Value} {rm : Room} {mc ms : Nat} (hts : ∀ w ∈ big, w.before args s = true) (hrc : rm.cells = mc) (hrs : rm.slots = ms) (hR : rm.frames + 1 ≤ R.frames ∧ 8 + (3 + 11) + rm.locals ≤ R.locals) : CallW R s args RX9 RX7 147 yX7_changeReach cX7_changeReach 3 (some .int) wyX7_changeReach rm mc ms 1 := ⟨callB_of 1 hts (big_code ok_X7_changeReach) rfl hrc hrs (hts (.initialized RX7) (in_r2 _ (List.mem_of_getElem? (i := 10) rfl))) (hts (.methodLink RX9 147 yX7_changeReach) (in_r16 _ (List.mem_of_getElem? (i := 18) rfl))) (by decide +kernel) hR, (hts (.instanceMethod yX7_changeReach) (in_r16 _ (List.mem_of_getElem? (i := 19) rfl))), (hts (.selects RX7 yX7_changeReach yX7_changeReach) (in_r16 _ (List.mem_of_getElem? (i := 20) rfl)))⟩
theorem cw_L_44 {R : Room} {s : State} {args : Array Value} {rm : Room} {mc ms : Nat} (hts : ∀ w ∈ big, w.before args s = true) (hrc : rm.cells = mc) (hrs : rm.slots = ms) (hR : rm.frames + 1 ≤ R.frames ∧ 8 + (4 + 11) + rm.locals ≤ R.locals) : CallW R s args RL RX10 44 yX10_set cX10_set 4 (some .int) wyX10_set rm mc ms 2 := ⟨callB_of 2 hts (big_code ok_X10_set) rfl hrc hrs (hts (.initialized RX10) (in_r1 _ (List.mem_of_getElem? (i := 5) rfl))) (hts (.methodLink RL 44 yX10_set) (in_r16 _ (List.mem_of_getElem? (i := 22) rfl))) (by decide +kernel) hR, (hts (.instanceMethod yX10_set) (in_r16 _ (List.mem_of_getElem? (i := 23) rfl))), (hts (.selects RX10 yX10_set yX10_set) (in_r17 _ (List.mem_of_getElem? (i := 0) rfl)))⟩
theorem cw_L_45 {R : Room} {s : State} {args : Array Value} {rm : Room} {mc ms : Nat} (hts : ∀ w ∈ big, w.before args s = true) (hrc : rm.cells = mc) (hrs : rm.slots = ms) (hR : rm.frames + 1 ≤ R.frames ∧ 8 + (3 + 11) + rm.locals ≤ R.locals) : CallW R s args RL RX9 45 yX9_seen cX9_seen 3 (some .int) wyX9_seen rm mc ms 2 := ⟨callB_of 2 hts (big_code ok_X9_seen) rfl hrc hrs (hts (.initialized RX9) (in_r1 _ (List.mem_of_getElem? (i := 2) rfl))) (hts (.methodLink RL 45 yX9_seen) (in_r17 _ (List.mem_of_getElem? (i := 4) rfl))) (by decide +kernel) hR, (hts (.instanceMethod yX9_seen) (in_r17 _ (List.mem_of_getElem? (i := 5) rfl))), (hts (.selects RX9 yX9_seen yX9_seen) (in_r17 _ (List.mem_of_getElem? (i := 6) rfl)))⟩
theorem cw_X9_150 {R : Room} {s : State} {args : Array Value} {rm : Room} {mc ms : Nat} (hts : ∀ w ∈ big, w.before args s = true) (hrc : rm.cells = mc) (hrs : rm.slots = ms) (hR : rm.frames + 1 ≤ R.frames ∧ 8 + (5 + 11) + rm.locals ≤ R.locals) : CallW R s args RX9 RX6 150 yX6_allSeen cX6_allSeen 5 (some .int) wyX6_allSeen rm mc ms 2 := ⟨callB_of 2 hts (big_code ok_X6_allSeen) rfl hrc hrs (hts (.initialized RX6) (in_r1 _ (List.mem_of_getElem? (i := 18) rfl))) (hts (.methodLink RX9 150 yX6_allSeen) (in_r17 _ (List.mem_of_getElem? (i := 8) rfl))) (by decide +kernel) hR, (hts (.instanceMethod yX6_allSeen) (in_r17 _ (List.mem_of_getElem? (i := 9) rfl))), (hts (.selects RX6 yX6_allSeen yX6_allSeen) (in_r17 _ (List.mem_of_getElem? (i := 10) rfl)))⟩
theorem cw_X6_101 {R : Room} {s : State} {args : Array Value} {rm : Room} {mc ms : Nat} (hts : ∀ w ∈ big, w.before args s = true) (hrc : rm.cells = mc) (hrs : rm.slots = ms) (hR : rm.frames + 1 ≤ R.frames ∧ 8 + (5 + 11) + rm.locals ≤ R.locals) : CallW R s args RX6 RX6 101 yX6_isSeen cX6_isSeen 5 (some .boolean) wyX6_isSeen rm mc ms 3 := ⟨callB_of 3 hts (big_code ok_X6_isSeen) rfl hrc hrs (hts (.initialized RX6) (in_r1 _ (List.mem_of_getElem? (i := 18) rfl))) (hts (.methodLink RX6 101 yX6_isSeen) (in_r17 _ (List.mem_of_getElem? (i := 12) rfl))) (by decide +kernel) hR, (hts (.instanceMethod yX6_isSeen) (in_r17 _ (List.mem_of_getElem? (i := 13) rfl))), (hts (.selects RX6 yX6_isSeen yX6_isSeen) (in_r17 _ (List.mem_of_getElem? (i := 14) rfl)))⟩
theorem cw_X6_86 {R : Room} {s : State} {args : Array Value} {rm : Room} {mc ms : Nat} (hts : ∀ w ∈ big, w.before args s = true) (hrc : rm.cells = mc) (hrs : rm.slots = ms) (hR : rm.frames + 1 ≤ R.frames ∧ 8 + (2 + 11) + rm.locals ≤ R.locals) : CallW R s args RX6 RX6 86 yX6_isGone cX6_isGone 2 (some .boolean) wyX6_isGone rm mc ms 1 := ⟨callB_of 1 hts (big_code ok_X6_isGone) rfl hrc hrs (hts (.initialized RX6) (in_r1 _ (List.mem_of_getElem? (i := 18) rfl))) (hts (.methodLink RX6 86 yX6_isGone) (in_r17 _ (List.mem_of_getElem? (i := 16) rfl))) (by decide +kernel) hR, (hts (.instanceMethod yX6_isGone) (in_r15 _ (List.mem_of_getElem? (i := 1) rfl))), (hts (.selects RX6 yX6_isGone yX6_isGone) (in_r15 _ (List.mem_of_getElem? (i := 2) rfl)))⟩
theorem cw_X6_96 {R : Room} {s : State} {args : Array Value} {rm : Room} {mc ms : Nat} (hts : ∀ w ∈ big, w.before args s = true) (hrc : rm.cells = mc) (hrs : rm.slots = ms) (hR : rm.frames + 1 ≤ R.frames ∧ 8 + (2 + 11) + rm.locals ≤ R.locals) : CallW R s args RX6 RX2 96 yX2_lengthOf cX2_lengthOf 2 (some .int) wyX2_lengthOf rm mc ms 1 := ⟨callB_of 1 hts (big_code ok_X2_lengthOf) rfl hrc hrs (hts (.initialized RX2) (in_r1 _ (List.mem_of_getElem? (i := 14) rfl))) (hts (.methodLink RX6 96 yX2_lengthOf) (in_r17 _ (List.mem_of_getElem? (i := 17) rfl))) (by decide +kernel) hR, (hts (.instanceMethod yX2_lengthOf) (in_r17 _ (List.mem_of_getElem? (i := 18) rfl))), (hts (.selects RX2 yX2_lengthOf yX2_lengthOf) (in_r17 _ (List.mem_of_getElem? (i := 19) rfl)))⟩
theorem cw_L_48 {R : Room} {s : State} {args : Array Value} {rm : Room} {mc ms : Nat} (hts : ∀ w ∈ big, w.before args s = true) (hrc : rm.cells = mc) (hrs : rm.slots = ms) (hR : rm.frames + 1 ≤ R.frames ∧ 8 + (3 + 11) + rm.locals ≤ R.locals) : CallW R s args RL RX10 48 yX10_seen cX10_seen 3 (some .int) wyX10_seen rm mc ms 2 := ⟨callB_of 2 hts (big_code ok_X10_seen) rfl hrc hrs (hts (.initialized RX10) (in_r1 _ (List.mem_of_getElem? (i := 5) rfl))) (hts (.methodLink RL 48 yX10_seen) (in_r17 _ (List.mem_of_getElem? (i := 21) rfl))) (by decide +kernel) hR, (hts (.instanceMethod yX10_seen) (in_r17 _ (List.mem_of_getElem? (i := 22) rfl))), (hts (.selects RX10 yX10_seen yX10_seen) (in_r17 _ (List.mem_of_getElem? (i := 23) rfl)))⟩
theorem cw_X10_128 {R : Room} {s : State} {args : Array Value} {rm : Room} {mc ms : Nat} (hts : ∀ w ∈ big, w.before args s = true) (hrc : rm.cells = mc) (hrs : rm.slots = ms) (hR : rm.frames + 1 ≤ R.frames ∧ 8 + (6 + 11) + rm.locals ≤ R.locals) : CallW R s args RX10 RX10 128 yX10_seenBy cX10_seenBy 6 (some .int) wyX10_seenBy rm mc ms 2 := ⟨callB_of 2 hts (big_code ok_X10_seenBy) rfl hrc hrs (hts (.initialized RX10) (in_r1 _ (List.mem_of_getElem? (i := 5) rfl))) (hts (.methodLink RX10 128 yX10_seenBy) (in_r18 _ (List.mem_of_getElem? (i := 1) rfl))) (by decide +kernel) hR, (hts (.instanceMethod yX10_seenBy) (in_r18 _ (List.mem_of_getElem? (i := 2) rfl))), (hts (.selects RX10 yX10_seenBy yX10_seenBy) (in_r18 _ (List.mem_of_getElem? (i := 3) rfl)))⟩
theorem cw_L_49 {R : Room} {s : State} {args : Array Value} {rm : Room} {mc ms : Nat} (hts : ∀ w ∈ big, w.before args s = true) (hrc : rm.cells = mc) (hrs : rm.slots = ms) (hR : rm.frames + 1 ≤ R.frames ∧ 8 + (3 + 11) + rm.locals ≤ R.locals) : CallW R s args RL RX9 49 yX9_walk cX9_walk 3 (some .int) wyX9_walk rm mc ms 2 := ⟨callB_of 2 hts (big_code ok_X9_walk) rfl hrc hrs (hts (.initialized RX9) (in_r1 _ (List.mem_of_getElem? (i := 2) rfl))) (hts (.methodLink RL 49 yX9_walk) (in_r18 _ (List.mem_of_getElem? (i := 5) rfl))) (by decide +kernel) hR, (hts (.instanceMethod yX9_walk) (in_r18 _ (List.mem_of_getElem? (i := 6) rfl))), (hts (.selects RX9 yX9_walk yX9_walk) (in_r18 _ (List.mem_of_getElem? (i := 7) rfl)))⟩
theorem cw_X9_153 {R : Room} {s : State} {args : Array Value} {rm : Room} {mc ms : Nat} (hts : ∀ w ∈ big, w.before args s = true) (hrc : rm.cells = mc) (hrs : rm.slots = ms) (hR : rm.frames + 1 ≤ R.frames ∧ 8 + (8 + 11) + rm.locals ≤ R.locals) : CallW R s args RX9 RX8 153 yX8_goFrom cX8_goFrom 8 none wyX8_goFrom rm mc ms 1 := ⟨callB_of 1 hts (big_code ok_X8_goFrom) rfl hrc hrs (hts (.initialized RX8) (in_r1 _ (List.mem_of_getElem? (i := 22) rfl))) (hts (.methodLink RX9 153 yX8_goFrom) (in_r18 _ (List.mem_of_getElem? (i := 9) rfl))) (by decide +kernel) hR, (hts (.instanceMethod yX8_goFrom) (in_r18 _ (List.mem_of_getElem? (i := 10) rfl))), (hts (.selects RX8 yX8_goFrom yX8_goFrom) (in_r18 _ (List.mem_of_getElem? (i := 11) rfl)))⟩
theorem cw_X8_69 {R : Room} {s : State} {args : Array Value} {rm : Room} {mc ms : Nat} (hts : ∀ w ∈ big, w.before args s = true) (hrc : rm.cells = mc) (hrs : rm.slots = ms) (hR : rm.frames + 1 ≤ R.frames ∧ 8 + (2 + 11) + rm.locals ≤ R.locals) : CallW R s args RX8 RX5 69 yX5_clear cX5_clear 2 (some .int) wyX5_clear rm mc ms 0 := ⟨callB_of 0 hts (big_code ok_X5_clear) rfl hrc hrs (hts (.initialized RX5) (in_r3 _ (List.mem_of_getElem? (i := 1) rfl))) (hts (.methodLink RX8 69 yX5_clear) (in_r18 _ (List.mem_of_getElem? (i := 13) rfl))) (by decide +kernel) hR, (hts (.instanceMethod yX5_clear) (in_r18 _ (List.mem_of_getElem? (i := 14) rfl))), (hts (.selects RX5 yX5_clear yX5_clear) (in_r18 _ (List.mem_of_getElem? (i := 15) rfl)))⟩
theorem cw_X8_72 {R : Room} {s : State} {args : Array Value} {rm : Room} {mc ms : Nat} (hts : ∀ w ∈ big, w.before args s = true) (hrc : rm.cells = mc) (hrs : rm.slots = ms) (hR : rm.frames + 1 ≤ R.frames ∧ 8 + (2 + 11) + rm.locals ≤ R.locals) : CallW R s args RX8 RX5 72 yX5_push cX5_push 2 (some .int) wyX5_push rm mc ms 1 := ⟨callB_of 1 hts (big_code ok_X5_push) rfl hrc hrs (hts (.initialized RX5) (in_r3 _ (List.mem_of_getElem? (i := 1) rfl))) (hts (.methodLink RX8 72 yX5_push) (in_r18 _ (List.mem_of_getElem? (i := 17) rfl))) (by decide +kernel) hR, (hts (.instanceMethod yX5_push) (in_r10 _ (List.mem_of_getElem? (i := 4) rfl))), (hts (.selects RX5 yX5_push yX5_push) (in_r10 _ (List.mem_of_getElem? (i := 5) rfl)))⟩
theorem cw_X8_75 {R : Room} {s : State} {args : Array Value} {rm : Room} {mc ms : Nat} (hts : ∀ w ∈ big, w.before args s = true) (hrc : rm.cells = mc) (hrs : rm.slots = ms) (hR : rm.frames + 1 ≤ R.frames ∧ 8 + (8 + 11) + rm.locals ≤ R.locals) : CallW R s args RX8 RX8 75 yX8_choice cX8_choice 8 (some .int) wyX8_choice rm mc ms 2 := ⟨callB_of 2 hts (big_code ok_X8_choice) rfl hrc hrs (hts (.initialized RX8) (in_r1 _ (List.mem_of_getElem? (i := 22) rfl))) (hts (.methodLink RX8 75 yX8_choice) (in_r18 _ (List.mem_of_getElem? (i := 18) rfl))) (by decide +kernel) hR, (hts (.instanceMethod yX8_choice) (in_r18 _ (List.mem_of_getElem? (i := 19) rfl))), (hts (.selects RX8 yX8_choice yX8_choice) (in_r18 _ (List.mem_of_getElem? (i := 20) rfl)))⟩
theorem cw_X8_35 {R : Room} {s : State} {args : Array Value} {rm : Room} {mc ms : Nat} (hts : ∀ w ∈ big, w.before args s = true) (hrc : rm.cells = mc) (hrs : rm.slots = ms) (hR : rm.frames + 1 ≤ R.frames ∧ 8 + (1 + 11) + rm.locals ≤ R.locals) : CallW R s args RX8 RX6 35 yX6_signCount cX6_signCount 1 (some .int) wyX6_signCount rm mc ms 0 := ⟨callB_of 0 hts (big_code ok_X6_signCount) rfl hrc hrs (hts (.initialized RX6) (in_r1 _ (List.mem_of_getElem? (i := 18) rfl))) (hts (.methodLink RX8 35 yX6_signCount) (in_r18 _ (List.mem_of_getElem? (i := 22) rfl))) (by decide +kernel) hR, (hts (.instanceMethod yX6_signCount) (in_r12 _ (List.mem_of_getElem? (i := 14) rfl))), (hts (.selects RX6 yX6_signCount yX6_signCount) (in_r12 _ (List.mem_of_getElem? (i := 15) rfl)))⟩
theorem cw_X8_41 {R : Room} {s : State} {args : Array Value} {rm : Room} {mc ms : Nat} (hts : ∀ w ∈ big, w.before args s = true) (hrc : rm.cells = mc) (hrs : rm.slots = ms) (hR : rm.frames + 1 ≤ R.frames ∧ 8 + (5 + 11) + rm.locals ≤ R.locals) : CallW R s args RX8 RX6 41 yX6_isSeen cX6_isSeen 5 (some .boolean) wyX6_isSeen rm mc ms 3 := ⟨callB_of 3 hts (big_code ok_X6_isSeen) rfl hrc hrs (hts (.initialized RX6) (in_r1 _ (List.mem_of_getElem? (i := 18) rfl))) (hts (.methodLink RX8 41 yX6_isSeen) (in_r18 _ (List.mem_of_getElem? (i := 23) rfl))) (by decide +kernel) hR, (hts (.instanceMethod yX6_isSeen) (in_r17 _ (List.mem_of_getElem? (i := 13) rfl))), (hts (.selects RX6 yX6_isSeen yX6_isSeen) (in_r17 _ (List.mem_of_getElem? (i := 14) rfl)))⟩
theorem cw_X8_45 {R : Room} {s : State} {args : Array Value} {rm : Room} {mc ms : Nat} (hts : ∀ w ∈ big, w.before args s = true) (hrc : rm.cells = mc) (hrs : rm.slots = ms) (hR : rm.frames + 1 ≤ R.frames ∧ 8 + (2 + 11) + rm.locals ≤ R.locals) : CallW R s args RX8 RX6 45 yX6_kindOf cX6_kindOf 2 (some .int) wyX6_kindOf rm mc ms 1 := ⟨callB_of 1 hts (big_code ok_X6_kindOf) rfl hrc hrs (hts (.initialized RX6) (in_r1 _ (List.mem_of_getElem? (i := 18) rfl))) (hts (.methodLink RX8 45 yX6_kindOf) (in_r19 _ (List.mem_of_getElem? (i := 0) rfl))) (by decide +kernel) hR, (hts (.instanceMethod yX6_kindOf) (in_r12 _ (List.mem_of_getElem? (i := 19) rfl))), (hts (.selects RX6 yX6_kindOf yX6_kindOf) (in_r12 _ (List.mem_of_getElem? (i := 20) rfl)))⟩
theorem cw_X8_49 {R : Room} {s : State} {args : Array Value} {rm : Room} {mc ms : Nat} (hts : ∀ w ∈ big, w.before args s = true) (hrc : rm.cells = mc) (hrs : rm.slots = ms) (hR : rm.frames + 1 ≤ R.frames ∧ 8 + (2 + 11) + rm.locals ≤ R.locals) : CallW R s args RX8 RX6 49 yX6_valueOf cX6_valueOf 2 (some .int) wyX6_valueOf rm mc ms 1 := ⟨callB_of 1 hts (big_code ok_X6_valueOf) rfl hrc hrs (hts (.initialized RX6) (in_r1 _ (List.mem_of_getElem? (i := 18) rfl))) (hts (.methodLink RX8 49 yX6_valueOf) (in_r19 _ (List.mem_of_getElem? (i := 1) rfl))) (by decide +kernel) hR, (hts (.instanceMethod yX6_valueOf) (in_r15 _ (List.mem_of_getElem? (i := 5) rfl))), (hts (.selects RX6 yX6_valueOf yX6_valueOf) (in_r15 _ (List.mem_of_getElem? (i := 6) rfl)))⟩
theorem cw_X8_55 {R : Room} {s : State} {args : Array Value} {rm : Room} {mc ms : Nat} (hts : ∀ w ∈ big, w.before args s = true) (hrc : rm.cells = mc) (hrs : rm.slots = ms) (hR : rm.frames + 1 ≤ R.frames ∧ 8 + (2 + 11) + rm.locals ≤ R.locals) : CallW R s args RX8 RX2 55 yX2_pathsAt cX2_pathsAt 2 (some .int) wyX2_pathsAt rm mc ms 1 := ⟨callB_of 1 hts (big_code ok_X2_pathsAt) rfl hrc hrs (hts (.initialized RX2) (in_r1 _ (List.mem_of_getElem? (i := 14) rfl))) (hts (.methodLink RX8 55 yX2_pathsAt) (in_r19 _ (List.mem_of_getElem? (i := 2) rfl))) (by decide +kernel) hR, (hts (.instanceMethod yX2_pathsAt) (in_r9 _ (List.mem_of_getElem? (i := 0) rfl))), (hts (.selects RX2 yX2_pathsAt yX2_pathsAt) (in_r9 _ (List.mem_of_getElem? (i := 1) rfl)))⟩
theorem cw_X8_60 {R : Room} {s : State} {args : Array Value} {rm : Room} {mc ms : Nat} (hts : ∀ w ∈ big, w.before args s = true) (hrc : rm.cells = mc) (hrs : rm.slots = ms) (hR : rm.frames + 1 ≤ R.frames ∧ 8 + (4 + 11) + rm.locals ≤ R.locals) : CallW R s args RX8 RX8 60 yX8_choiceAmong cX8_choiceAmong 4 (some .int) wyX8_choiceAmong rm mc ms 2 := ⟨callB_of 2 hts (big_code ok_X8_choiceAmong) rfl hrc hrs (hts (.initialized RX8) (in_r1 _ (List.mem_of_getElem? (i := 22) rfl))) (hts (.methodLink RX8 60 yX8_choiceAmong) (in_r19 _ (List.mem_of_getElem? (i := 3) rfl))) (by decide +kernel) hR, (hts (.instanceMethod yX8_choiceAmong) (in_r19 _ (List.mem_of_getElem? (i := 4) rfl))), (hts (.selects RX8 yX8_choiceAmong yX8_choiceAmong) (in_r19 _ (List.mem_of_getElem? (i := 5) rfl)))⟩
theorem cw_X8_64 {R : Room} {s : State} {args : Array Value} {rm : Room} {mc ms : Nat} (hts : ∀ w ∈ big, w.before args s = true) (hrc : rm.cells = mc) (hrs : rm.slots = ms) (hR : rm.frames + 1 ≤ R.frames ∧ 8 + (1 + 11) + rm.locals ≤ R.locals) : CallB R s args RX8 64 yJ6_bitCount_0f7a4 cJ6_bitCount_0f7a4 1 (some .int) wyJ6_bitCount_0f7a4 rm mc ms 1 ∧ (Cond.static yJ6_bitCount_0f7a4).before args s = true := ⟨callB_of 1 hts (big_code ok_J6_bitCount_0f7a4) rfl hrc hrs (hts (.initialized RJ6) (in_r9 _ (List.mem_of_getElem? (i := 9) rfl))) (hts (.methodLink RX8 64 yJ6_bitCount_0f7a4) (in_r19 _ (List.mem_of_getElem? (i := 7) rfl))) (by decide +kernel) hR, (hts (.static yJ6_bitCount_0f7a4) (in_r9 _ (List.mem_of_getElem? (i := 8) rfl)))⟩
theorem cw_X8_78 {R : Room} {s : State} {args : Array Value} {rm : Room} {mc ms : Nat} (hts : ∀ w ∈ big, w.before args s = true) (hrc : rm.cells = mc) (hrs : rm.slots = ms) (hR : rm.frames + 1 ≤ R.frames ∧ 8 + (3 + 11) + rm.locals ≤ R.locals) : CallW R s args RX8 RX2 78 yX2_arcFrom cX2_arcFrom 3 (some .int) wyX2_arcFrom rm mc ms 2 := ⟨callB_of 2 hts (big_code ok_X2_arcFrom) rfl hrc hrs (hts (.initialized RX2) (in_r1 _ (List.mem_of_getElem? (i := 14) rfl))) (hts (.methodLink RX8 78 yX2_arcFrom) (in_r19 _ (List.mem_of_getElem? (i := 8) rfl))) (by decide +kernel) hR, (hts (.instanceMethod yX2_arcFrom) (in_r19 _ (List.mem_of_getElem? (i := 9) rfl))), (hts (.selects RX2 yX2_arcFrom yX2_arcFrom) (in_r19 _ (List.mem_of_getElem? (i := 10) rfl)))⟩
theorem cw_X8_81 {R : Room} {s : State} {args : Array Value} {rm : Room} {mc ms : Nat} (hts : ∀ w ∈ big, w.before args s = true) (hrc : rm.cells = mc) (hrs : rm.slots = ms) (hR : rm.frames + 1 ≤ R.frames ∧ 8 + (2 + 11) + rm.locals ≤ R.locals) : CallW R s args RX8 RX2 81 yX2_endOf cX2_endOf 2 (some .int) wyX2_endOf rm mc ms 1 := ⟨callB_of 1 hts (big_code ok_X2_endOf) rfl hrc hrs (hts (.initialized RX2) (in_r1 _ (List.mem_of_getElem? (i := 14) rfl))) (hts (.methodLink RX8 81 yX2_endOf) (in_r19 _ (List.mem_of_getElem? (i := 12) rfl))) (by decide +kernel) hR, (hts (.instanceMethod yX2_endOf) (in_r19 _ (List.mem_of_getElem? (i := 13) rfl))), (hts (.selects RX2 yX2_endOf yX2_endOf) (in_r19 _ (List.mem_of_getElem? (i := 14) rfl)))⟩
theorem cw_X8_84 {R : Room} {s : State} {args : Array Value} {rm : Room} {mc ms : Nat} (hts : ∀ w ∈ big, w.before args s = true) (hrc : rm.cells = mc) (hrs : rm.slots = ms) (hR : rm.frames + 1 ≤ R.frames ∧ 8 + (2 + 11) + rm.locals ≤ R.locals) : CallW R s args RX8 RX2 84 yX2_lengthOf cX2_lengthOf 2 (some .int) wyX2_lengthOf rm mc ms 1 := ⟨callB_of 1 hts (big_code ok_X2_lengthOf) rfl hrc hrs (hts (.initialized RX2) (in_r1 _ (List.mem_of_getElem? (i := 14) rfl))) (hts (.methodLink RX8 84 yX2_lengthOf) (in_r19 _ (List.mem_of_getElem? (i := 16) rfl))) (by decide +kernel) hR, (hts (.instanceMethod yX2_lengthOf) (in_r17 _ (List.mem_of_getElem? (i := 18) rfl))), (hts (.selects RX2 yX2_lengthOf yX2_lengthOf) (in_r17 _ (List.mem_of_getElem? (i := 19) rfl)))⟩
theorem cw_X9_157 {R : Room} {s : State} {args : Array Value} {rm : Room} {mc ms : Nat} (hts : ∀ w ∈ big, w.before args s = true) (hrc : rm.cells = mc) (hrs : rm.slots = ms) (hR : rm.frames + 1 ≤ R.frames ∧ 8 + (2 + 11) + rm.locals ≤ R.locals) : CallW R s args RX9 RX8 157 yX8_tell cX8_tell 2 (some .int) wyX8_tell rm mc ms 1 := ⟨callB_of 1 hts (big_code ok_X8_tell) rfl hrc hrs (hts (.initialized RX8) (in_r1 _ (List.mem_of_getElem? (i := 22) rfl))) (hts (.methodLink RX9 157 yX8_tell) (in_r19 _ (List.mem_of_getElem? (i := 17) rfl))) (by decide +kernel) hR, (hts (.instanceMethod yX8_tell) (in_r19 _ (List.mem_of_getElem? (i := 18) rfl))), (hts (.selects RX8 yX8_tell yX8_tell) (in_r19 _ (List.mem_of_getElem? (i := 19) rfl)))⟩
theorem cw_X8_87 {R : Room} {s : State} {args : Array Value} {rm : Room} {mc ms : Nat} (hts : ∀ w ∈ big, w.before args s = true) (hrc : rm.cells = mc) (hrs : rm.slots = ms) (hR : rm.frames + 1 ≤ R.frames ∧ 8 + (1 + 11) + rm.locals ≤ R.locals) : CallW R s args RX8 RX5 87 yX5_size cX5_size 1 (some .int) wyX5_size rm mc ms 0 := ⟨callB_of 0 hts (big_code ok_X5_size) rfl hrc hrs (hts (.initialized RX5) (in_r3 _ (List.mem_of_getElem? (i := 1) rfl))) (hts (.methodLink RX8 87 yX5_size) (in_r19 _ (List.mem_of_getElem? (i := 21) rfl))) (by decide +kernel) hR, (hts (.instanceMethod yX5_size) (in_r9 _ (List.mem_of_getElem? (i := 19) rfl))), (hts (.selects RX5 yX5_size yX5_size) (in_r9 _ (List.mem_of_getElem? (i := 20) rfl)))⟩
theorem cw_X8_90 {R : Room} {s : State} {args : Array Value} {rm : Room} {mc ms : Nat} (hts : ∀ w ∈ big, w.before args s = true) (hrc : rm.cells = mc) (hrs : rm.slots = ms) (hR : rm.frames + 1 ≤ R.frames ∧ 8 + (2 + 11) + rm.locals ≤ R.locals) : CallW R s args RX8 RX5 90 yX5_get cX5_get 2 (some .int) wyX5_get rm mc ms 1 := ⟨callB_of 1 hts (big_code ok_X5_get) rfl hrc hrs (hts (.initialized RX5) (in_r3 _ (List.mem_of_getElem? (i := 1) rfl))) (hts (.methodLink RX8 90 yX5_get) (in_r19 _ (List.mem_of_getElem? (i := 22) rfl))) (by decide +kernel) hR, (hts (.instanceMethod yX5_get) (in_r9 _ (List.mem_of_getElem? (i := 4) rfl))), (hts (.selects RX5 yX5_get yX5_get) (in_r9 _ (List.mem_of_getElem? (i := 5) rfl)))⟩
theorem cw_L_52 {R : Room} {s : State} {args : Array Value} {rm : Room} {mc ms : Nat} (hts : ∀ w ∈ big, w.before args s = true) (hrc : rm.cells = mc) (hrs : rm.slots = ms) (hR : rm.frames + 1 ≤ R.frames ∧ 8 + (3 + 11) + rm.locals ≤ R.locals) : CallW R s args RL RX10 52 yX10_walk cX10_walk 3 (some .int) wyX10_walk rm mc ms 2 := ⟨callB_of 2 hts (big_code ok_X10_walk) rfl hrc hrs (hts (.initialized RX10) (in_r1 _ (List.mem_of_getElem? (i := 5) rfl))) (hts (.methodLink RL 52 yX10_walk) (in_r19 _ (List.mem_of_getElem? (i := 23) rfl))) (by decide +kernel) hR, (hts (.instanceMethod yX10_walk) (in_r20 _ (List.mem_of_getElem? (i := 0) rfl))), (hts (.selects RX10 yX10_walk yX10_walk) (in_r20 _ (List.mem_of_getElem? (i := 1) rfl)))⟩
theorem cw_X10_146 {R : Room} {s : State} {args : Array Value} {rm : Room} {mc ms : Nat} (hts : ∀ w ∈ big, w.before args s = true) (hrc : rm.cells = mc) (hrs : rm.slots = ms) (hR : rm.frames + 1 ≤ R.frames ∧ 8 + (6 + 11) + rm.locals ≤ R.locals) : CallW R s args RX10 RX10 146 yX10_goWalk cX10_goWalk 6 none wyX10_goWalk rm mc ms 1 := ⟨callB_of 1 hts (big_code ok_X10_goWalk) rfl hrc hrs (hts (.initialized RX10) (in_r1 _ (List.mem_of_getElem? (i := 5) rfl))) (hts (.methodLink RX10 146 yX10_goWalk) (in_r20 _ (List.mem_of_getElem? (i := 6) rfl))) (by decide +kernel) hR, (hts (.instanceMethod yX10_goWalk) (in_r20 _ (List.mem_of_getElem? (i := 7) rfl))), (hts (.selects RX10 yX10_goWalk yX10_goWalk) (in_r20 _ (List.mem_of_getElem? (i := 8) rfl)))⟩
theorem cw_X10_140 {R : Room} {s : State} {args : Array Value} {rm : Room} {mc ms : Nat} (hts : ∀ w ∈ big, w.before args s = true) (hrc : rm.cells = mc) (hrs : rm.slots = ms) (hR : rm.frames + 1 ≤ R.frames ∧ 8 + (9 + 11) + rm.locals ≤ R.locals) : CallW R s args RX10 RX10 140 yX10_goesBy cX10_goesBy 9 (some .int) wyX10_goesBy rm mc ms 2 := ⟨callB_of 2 hts (big_code ok_X10_goesBy) rfl hrc hrs (hts (.initialized RX10) (in_r1 _ (List.mem_of_getElem? (i := 5) rfl))) (hts (.methodLink RX10 140 yX10_goesBy) (in_r20 _ (List.mem_of_getElem? (i := 10) rfl))) (by decide +kernel) hR, (hts (.instanceMethod yX10_goesBy) (in_r20 _ (List.mem_of_getElem? (i := 11) rfl))), (hts (.selects RX10 yX10_goesBy yX10_goesBy) (in_r20 _ (List.mem_of_getElem? (i := 12) rfl)))⟩
theorem cw_X10_143 {R : Room} {s : State} {args : Array Value} {rm : Room} {mc ms : Nat} (hts : ∀ w ∈ big, w.before args s = true) (hrc : rm.cells = mc) (hrs : rm.slots = ms) (hR : rm.frames + 1 ≤ R.frames ∧ 8 + (3 + 11) + rm.locals ≤ R.locals) : CallW R s args RX10 RX10 143 yX10_otherEnd cX10_otherEnd 3 (some .int) wyX10_otherEnd rm mc ms 2 := ⟨callB_of 2 hts (big_code ok_X10_otherEnd) rfl hrc hrs (hts (.initialized RX10) (in_r1 _ (List.mem_of_getElem? (i := 5) rfl))) (hts (.methodLink RX10 143 yX10_otherEnd) (in_r20 _ (List.mem_of_getElem? (i := 14) rfl))) (by decide +kernel) hR, (hts (.instanceMethod yX10_otherEnd) (in_r20 _ (List.mem_of_getElem? (i := 15) rfl))), (hts (.selects RX10 yX10_otherEnd yX10_otherEnd) (in_r20 _ (List.mem_of_getElem? (i := 16) rfl)))⟩
theorem cw_L_53 {R : Room} {s : State} {args : Array Value} {rm : Room} {mc ms : Nat} (hts : ∀ w ∈ big, w.before args s = true) (hrc : rm.cells = mc) (hrs : rm.slots = ms) (hR : rm.frames + 1 ≤ R.frames ∧ 8 + (3 + 11) + rm.locals ≤ R.locals) : CallW R s args RL RX9 53 yX9_walked cX9_walked 3 (some .int) wyX9_walked rm mc ms 2 := ⟨callB_of 2 hts (big_code ok_X9_walked) rfl hrc hrs (hts (.initialized RX9) (in_r1 _ (List.mem_of_getElem? (i := 2) rfl))) (hts (.methodLink RL 53 yX9_walked) (in_r20 _ (List.mem_of_getElem? (i := 18) rfl))) (by decide +kernel) hR, (hts (.instanceMethod yX9_walked) (in_r20 _ (List.mem_of_getElem? (i := 19) rfl))), (hts (.selects RX9 yX9_walked yX9_walked) (in_r20 _ (List.mem_of_getElem? (i := 20) rfl)))⟩
theorem cw_X9_159 {R : Room} {s : State} {args : Array Value} {rm : Room} {mc ms : Nat} (hts : ∀ w ∈ big, w.before args s = true) (hrc : rm.cells = mc) (hrs : rm.slots = ms) (hR : rm.frames + 1 ≤ R.frames ∧ 8 + (2 + 11) + rm.locals ≤ R.locals) : CallW R s args RX9 RX8 159 yX8_placeBehind cX8_placeBehind 2 (some .int) wyX8_placeBehind rm mc ms 1 := ⟨callB_of 1 hts (big_code ok_X8_placeBehind) rfl hrc hrs (hts (.initialized RX8) (in_r1 _ (List.mem_of_getElem? (i := 22) rfl))) (hts (.methodLink RX9 159 yX8_placeBehind) (in_r20 _ (List.mem_of_getElem? (i := 22) rfl))) (by decide +kernel) hR, (hts (.instanceMethod yX8_placeBehind) (in_r20 _ (List.mem_of_getElem? (i := 23) rfl))), (hts (.selects RX8 yX8_placeBehind yX8_placeBehind) (in_r21 _ (List.mem_of_getElem? (i := 0) rfl)))⟩
theorem cw_L_56 {R : Room} {s : State} {args : Array Value} {rm : Room} {mc ms : Nat} (hts : ∀ w ∈ big, w.before args s = true) (hrc : rm.cells = mc) (hrs : rm.slots = ms) (hR : rm.frames + 1 ≤ R.frames ∧ 8 + (3 + 11) + rm.locals ≤ R.locals) : CallW R s args RL RX10 56 yX10_walked cX10_walked 3 (some .int) wyX10_walked rm mc ms 2 := ⟨callB_of 2 hts (big_code ok_X10_walked) rfl hrc hrs (hts (.initialized RX10) (in_r1 _ (List.mem_of_getElem? (i := 5) rfl))) (hts (.methodLink RL 56 yX10_walked) (in_r21 _ (List.mem_of_getElem? (i := 2) rfl))) (by decide +kernel) hR, (hts (.instanceMethod yX10_walked) (in_r21 _ (List.mem_of_getElem? (i := 3) rfl))), (hts (.selects RX10 yX10_walked yX10_walked) (in_r21 _ (List.mem_of_getElem? (i := 4) rfl)))⟩
theorem cw_L_57 {R : Room} {s : State} {args : Array Value} {rm : Room} {mc ms : Nat} (hts : ∀ w ∈ big, w.before args s = true) (hrc : rm.cells = mc) (hrs : rm.slots = ms) (hR : rm.frames + 1 ≤ R.frames ∧ 8 + (2 + 11) + rm.locals ≤ R.locals) : CallW R s args RL RX9 57 yX9_note cX9_note 2 (some .int) wyX9_note rm mc ms 1 := ⟨callB_of 1 hts (big_code ok_X9_note) rfl hrc hrs (hts (.initialized RX9) (in_r1 _ (List.mem_of_getElem? (i := 2) rfl))) (hts (.methodLink RL 57 yX9_note) (in_r21 _ (List.mem_of_getElem? (i := 6) rfl))) (by decide +kernel) hR, (hts (.instanceMethod yX9_note) (in_r21 _ (List.mem_of_getElem? (i := 7) rfl))), (hts (.selects RX9 yX9_note yX9_note) (in_r21 _ (List.mem_of_getElem? (i := 8) rfl)))⟩
theorem cw_X9_162 {R : Room} {s : State} {args : Array Value} {rm : Room} {mc ms : Nat} (hts : ∀ w ∈ big, w.before args s = true) (hrc : rm.cells = mc) (hrs : rm.slots = ms) (hR : rm.frames + 1 ≤ R.frames ∧ 8 + (1 + 11) + rm.locals ≤ R.locals) : CallW R s args RX9 RX3 162 yX3_noteCount cX3_noteCount 1 (some .int) wyX3_noteCount rm mc ms 0 := ⟨callB_of 0 hts (big_code ok_X3_noteCount) rfl hrc hrs (hts (.initialized RX3) (in_r2 _ (List.mem_of_getElem? (i := 2) rfl))) (hts (.methodLink RX9 162 yX3_noteCount) (in_r21 _ (List.mem_of_getElem? (i := 10) rfl))) (by decide +kernel) hR, (hts (.instanceMethod yX3_noteCount) (in_r21 _ (List.mem_of_getElem? (i := 11) rfl))), (hts (.selects RX3 yX3_noteCount yX3_noteCount) (in_r21 _ (List.mem_of_getElem? (i := 12) rfl)))⟩
theorem cw_X3_37 {R : Room} {s : State} {args : Array Value} {rm : Room} {mc ms : Nat} (hts : ∀ w ∈ big, w.before args s = true) (hrc : rm.cells = mc) (hrs : rm.slots = ms) (hR : rm.frames + 1 ≤ R.frames ∧ 8 + (1 + 11) + rm.locals ≤ R.locals) : CallW R s args RX3 RX5 37 yX5_size cX5_size 1 (some .int) wyX5_size rm mc ms 0 := ⟨callB_of 0 hts (big_code ok_X5_size) rfl hrc hrs (hts (.initialized RX5) (in_r3 _ (List.mem_of_getElem? (i := 1) rfl))) (hts (.methodLink RX3 37 yX5_size) (in_r21 _ (List.mem_of_getElem? (i := 14) rfl))) (by decide +kernel) hR, (hts (.instanceMethod yX5_size) (in_r9 _ (List.mem_of_getElem? (i := 19) rfl))), (hts (.selects RX5 yX5_size yX5_size) (in_r9 _ (List.mem_of_getElem? (i := 20) rfl)))⟩
theorem cw_X9_165 {R : Room} {s : State} {args : Array Value} {rm : Room} {mc ms : Nat} (hts : ∀ w ∈ big, w.before args s = true) (hrc : rm.cells = mc) (hrs : rm.slots = ms) (hR : rm.frames + 1 ≤ R.frames ∧ 8 + (2 + 11) + rm.locals ≤ R.locals) : CallW R s args RX9 RX3 165 yX3_takeDown cX3_takeDown 2 (some .int) wyX3_takeDown rm mc ms 1 := ⟨callB_of 1 hts (big_code ok_X3_takeDown) rfl hrc hrs (hts (.initialized RX3) (in_r2 _ (List.mem_of_getElem? (i := 2) rfl))) (hts (.methodLink RX9 165 yX3_takeDown) (in_r21 _ (List.mem_of_getElem? (i := 15) rfl))) (by decide +kernel) hR, (hts (.instanceMethod yX3_takeDown) (in_r21 _ (List.mem_of_getElem? (i := 16) rfl))), (hts (.selects RX3 yX3_takeDown yX3_takeDown) (in_r21 _ (List.mem_of_getElem? (i := 17) rfl)))⟩
theorem cw_X3_41 {R : Room} {s : State} {args : Array Value} {rm : Room} {mc ms : Nat} (hts : ∀ w ∈ big, w.before args s = true) (hrc : rm.cells = mc) (hrs : rm.slots = ms) (hR : rm.frames + 1 ≤ R.frames ∧ 8 + (2 + 11) + rm.locals ≤ R.locals) : CallW R s args RX3 RX5 41 yX5_push cX5_push 2 (some .int) wyX5_push rm mc ms 1 := ⟨callB_of 1 hts (big_code ok_X5_push) rfl hrc hrs (hts (.initialized RX5) (in_r3 _ (List.mem_of_getElem? (i := 1) rfl))) (hts (.methodLink RX3 41 yX5_push) (in_r21 _ (List.mem_of_getElem? (i := 19) rfl))) (by decide +kernel) hR, (hts (.instanceMethod yX5_push) (in_r10 _ (List.mem_of_getElem? (i := 4) rfl))), (hts (.selects RX5 yX5_push yX5_push) (in_r10 _ (List.mem_of_getElem? (i := 5) rfl)))⟩
theorem cw_L_60 {R : Room} {s : State} {args : Array Value} {rm : Room} {mc ms : Nat} (hts : ∀ w ∈ big, w.before args s = true) (hrc : rm.cells = mc) (hrs : rm.slots = ms) (hR : rm.frames + 1 ≤ R.frames ∧ 8 + (2 + 11) + rm.locals ≤ R.locals) : CallW R s args RL RX10 60 yX10_note cX10_note 2 (some .int) wyX10_note rm mc ms 1 := ⟨callB_of 1 hts (big_code ok_X10_note) rfl hrc hrs (hts (.initialized RX10) (in_r1 _ (List.mem_of_getElem? (i := 5) rfl))) (hts (.methodLink RL 60 yX10_note) (in_r21 _ (List.mem_of_getElem? (i := 20) rfl))) (by decide +kernel) hR, (hts (.instanceMethod yX10_note) (in_r21 _ (List.mem_of_getElem? (i := 21) rfl))), (hts (.selects RX10 yX10_note yX10_note) (in_r21 _ (List.mem_of_getElem? (i := 22) rfl)))⟩
theorem cw_L_61 {R : Room} {s : State} {args : Array Value} {rm : Room} {mc ms : Nat} (hts : ∀ w ∈ big, w.before args s = true) (hrc : rm.cells = mc) (hrs : rm.slots = ms) (hR : rm.frames + 1 ≤ R.frames ∧ 8 + (1 + 11) + rm.locals ≤ R.locals) : CallW R s args RL RX9 61 yX9_forget cX9_forget 1 (some .int) wyX9_forget rm mc ms 0 := ⟨callB_of 0 hts (big_code ok_X9_forget) rfl hrc hrs (hts (.initialized RX9) (in_r1 _ (List.mem_of_getElem? (i := 2) rfl))) (hts (.methodLink RL 61 yX9_forget) (in_r22 _ (List.mem_of_getElem? (i := 1) rfl))) (by decide +kernel) hR, (hts (.instanceMethod yX9_forget) (in_r22 _ (List.mem_of_getElem? (i := 2) rfl))), (hts (.selects RX9 yX9_forget yX9_forget) (in_r22 _ (List.mem_of_getElem? (i := 3) rfl)))⟩
theorem cw_X9_168 {R : Room} {s : State} {args : Array Value} {rm : Room} {mc ms : Nat} (hts : ∀ w ∈ big, w.before args s = true) (hrc : rm.cells = mc) (hrs : rm.slots = ms) (hR : rm.frames + 1 ≤ R.frames ∧ 8 + (1 + 11) + rm.locals ≤ R.locals) : CallW R s args RX9 RX3 168 yX3_dropAll cX3_dropAll 1 (some .int) wyX3_dropAll rm mc ms 0 := ⟨callB_of 0 hts (big_code ok_X3_dropAll) rfl hrc hrs (hts (.initialized RX3) (in_r2 _ (List.mem_of_getElem? (i := 2) rfl))) (hts (.methodLink RX9 168 yX3_dropAll) (in_r22 _ (List.mem_of_getElem? (i := 5) rfl))) (by decide +kernel) hR, (hts (.instanceMethod yX3_dropAll) (in_r22 _ (List.mem_of_getElem? (i := 6) rfl))), (hts (.selects RX3 yX3_dropAll yX3_dropAll) (in_r22 _ (List.mem_of_getElem? (i := 7) rfl)))⟩
theorem cw_X3_45 {R : Room} {s : State} {args : Array Value} {rm : Room} {mc ms : Nat} (hts : ∀ w ∈ big, w.before args s = true) (hrc : rm.cells = mc) (hrs : rm.slots = ms) (hR : rm.frames + 1 ≤ R.frames ∧ 8 + (2 + 11) + rm.locals ≤ R.locals) : CallW R s args RX3 RX5 45 yX5_clear cX5_clear 2 (some .int) wyX5_clear rm mc ms 0 := ⟨callB_of 0 hts (big_code ok_X5_clear) rfl hrc hrs (hts (.initialized RX5) (in_r3 _ (List.mem_of_getElem? (i := 1) rfl))) (hts (.methodLink RX3 45 yX5_clear) (in_r22 _ (List.mem_of_getElem? (i := 9) rfl))) (by decide +kernel) hR, (hts (.instanceMethod yX5_clear) (in_r18 _ (List.mem_of_getElem? (i := 14) rfl))), (hts (.selects RX5 yX5_clear yX5_clear) (in_r18 _ (List.mem_of_getElem? (i := 15) rfl)))⟩
theorem cw_L_65 {R : Room} {s : State} {args : Array Value} {rm : Room} {mc ms : Nat} (hts : ∀ w ∈ big, w.before args s = true) (hrc : rm.cells = mc) (hrs : rm.slots = ms) (hR : rm.frames + 1 ≤ R.frames ∧ 8 + (2 + 11) + rm.locals ≤ R.locals) : CallW R s args RL RX10 65 yX10_forget cX10_forget 2 (some .int) wyX10_forget rm mc ms 0 := ⟨callB_of 0 hts (big_code ok_X10_forget) rfl hrc hrs (hts (.initialized RX10) (in_r1 _ (List.mem_of_getElem? (i := 5) rfl))) (hts (.methodLink RL 65 yX10_forget) (in_r22 _ (List.mem_of_getElem? (i := 10) rfl))) (by decide +kernel) hR, (hts (.instanceMethod yX10_forget) (in_r22 _ (List.mem_of_getElem? (i := 11) rfl))), (hts (.selects RX10 yX10_forget yX10_forget) (in_r22 _ (List.mem_of_getElem? (i := 12) rfl)))⟩
theorem cw_L_66 {R : Room} {s : State} {args : Array Value} {rm : Room} {mc ms : Nat} (hts : ∀ w ∈ big, w.before args s = true) (hrc : rm.cells = mc) (hrs : rm.slots = ms) (hR : rm.frames + 1 ≤ R.frames ∧ 8 + (2 + 11) + rm.locals ≤ R.locals) : CallW R s args RL RX9 66 yX9_ways cX9_ways 2 (some .int) wyX9_ways rm mc ms 1 := ⟨callB_of 1 hts (big_code ok_X9_ways) rfl hrc hrs (hts (.initialized RX9) (in_r1 _ (List.mem_of_getElem? (i := 2) rfl))) (hts (.methodLink RL 66 yX9_ways) (in_r22 _ (List.mem_of_getElem? (i := 14) rfl))) (by decide +kernel) hR, (hts (.instanceMethod yX9_ways) (in_r22 _ (List.mem_of_getElem? (i := 15) rfl))), (hts (.selects RX9 yX9_ways yX9_ways) (in_r22 _ (List.mem_of_getElem? (i := 16) rfl)))⟩
theorem cw_X9_171 {R : Room} {s : State} {args : Array Value} {rm : Room} {mc ms : Nat} (hts : ∀ w ∈ big, w.before args s = true) (hrc : rm.cells = mc) (hrs : rm.slots = ms) (hR : rm.frames + 1 ≤ R.frames ∧ 8 + (4 + 11) + rm.locals ≤ R.locals) : CallW R s args RX9 RX3 171 yX3_waysFrom cX3_waysFrom 4 (some .int) wyX3_waysFrom rm mc ms 1 := ⟨callB_of 1 hts (big_code ok_X3_waysFrom) rfl hrc hrs (hts (.initialized RX3) (in_r2 _ (List.mem_of_getElem? (i := 2) rfl))) (hts (.methodLink RX9 171 yX3_waysFrom) (in_r22 _ (List.mem_of_getElem? (i := 18) rfl))) (by decide +kernel) hR, (hts (.instanceMethod yX3_waysFrom) (in_r22 _ (List.mem_of_getElem? (i := 19) rfl))), (hts (.selects RX3 yX3_waysFrom yX3_waysFrom) (in_r22 _ (List.mem_of_getElem? (i := 20) rfl)))⟩
theorem cw_X3_48 {R : Room} {s : State} {args : Array Value} {rm : Room} {mc ms : Nat} (hts : ∀ w ∈ big, w.before args s = true) (hrc : rm.cells = mc) (hrs : rm.slots = ms) (hR : rm.frames + 1 ≤ R.frames ∧ 8 + (1 + 11) + rm.locals ≤ R.locals) : CallW R s args RX3 RX3 48 yX3_noteCount cX3_noteCount 1 (some .int) wyX3_noteCount rm mc ms 0 := ⟨callB_of 0 hts (big_code ok_X3_noteCount) rfl hrc hrs (hts (.initialized RX3) (in_r2 _ (List.mem_of_getElem? (i := 2) rfl))) (hts (.methodLink RX3 48 yX3_noteCount) (in_r22 _ (List.mem_of_getElem? (i := 22) rfl))) (by decide +kernel) hR, (hts (.instanceMethod yX3_noteCount) (in_r21 _ (List.mem_of_getElem? (i := 11) rfl))), (hts (.selects RX3 yX3_noteCount yX3_noteCount) (in_r21 _ (List.mem_of_getElem? (i := 12) rfl)))⟩
theorem cw_X3_51 {R : Room} {s : State} {args : Array Value} {rm : Room} {mc ms : Nat} (hts : ∀ w ∈ big, w.before args s = true) (hrc : rm.cells = mc) (hrs : rm.slots = ms) (hR : rm.frames + 1 ≤ R.frames ∧ 8 + (1 + 11) + rm.locals ≤ R.locals) : CallW R s args RX3 RX2 51 yX2_pathCount cX2_pathCount 1 (some .int) wyX2_pathCount rm mc ms 0 := ⟨callB_of 0 hts (big_code ok_X2_pathCount) rfl hrc hrs (hts (.initialized RX2) (in_r1 _ (List.mem_of_getElem? (i := 14) rfl))) (hts (.methodLink RX3 51 yX2_pathCount) (in_r22 _ (List.mem_of_getElem? (i := 23) rfl))) (by decide +kernel) hR, (hts (.instanceMethod yX2_pathCount) (in_r9 _ (List.mem_of_getElem? (i := 15) rfl))), (hts (.selects RX2 yX2_pathCount yX2_pathCount) (in_r9 _ (List.mem_of_getElem? (i := 16) rfl)))⟩
theorem cw_X3_54 {R : Room} {s : State} {args : Array Value} {rm : Room} {mc ms : Nat} (hts : ∀ w ∈ big, w.before args s = true) (hrc : rm.cells = mc) (hrs : rm.slots = ms) (hR : rm.frames + 1 ≤ R.frames ∧ 8 + (2 + 11) + rm.locals ≤ R.locals) : CallW R s args RX3 RX2 54 yX2_endOf cX2_endOf 2 (some .int) wyX2_endOf rm mc ms 1 := ⟨callB_of 1 hts (big_code ok_X2_endOf) rfl hrc hrs (hts (.initialized RX2) (in_r1 _ (List.mem_of_getElem? (i := 14) rfl))) (hts (.methodLink RX3 54 yX2_endOf) (in_r23 _ (List.mem_of_getElem? (i := 0) rfl))) (by decide +kernel) hR, (hts (.instanceMethod yX2_endOf) (in_r19 _ (List.mem_of_getElem? (i := 13) rfl))), (hts (.selects RX2 yX2_endOf yX2_endOf) (in_r19 _ (List.mem_of_getElem? (i := 14) rfl)))⟩
theorem cw_X3_57 {R : Room} {s : State} {args : Array Value} {rm : Room} {mc ms : Nat} (hts : ∀ w ∈ big, w.before args s = true) (hrc : rm.cells = mc) (hrs : rm.slots = ms) (hR : rm.frames + 1 ≤ R.frames ∧ 8 + (8 + 11) + rm.locals ≤ R.locals) : CallW R s args RX3 RX3 57 yX3_waysOn cX3_waysOn 8 (some .int) wyX3_waysOn rm mc ms 3 := ⟨callB_of 3 hts (big_code ok_X3_waysOn) rfl hrc hrs (hts (.initialized RX3) (in_r2 _ (List.mem_of_getElem? (i := 2) rfl))) (hts (.methodLink RX3 57 yX3_waysOn) (in_r23 _ (List.mem_of_getElem? (i := 1) rfl))) (by decide +kernel) hR, (hts (.instanceMethod yX3_waysOn) (in_r23 _ (List.mem_of_getElem? (i := 2) rfl))), (hts (.selects RX3 yX3_waysOn yX3_waysOn) (in_r23 _ (List.mem_of_getElem? (i := 3) rfl)))⟩
theorem cw_X3_65 {R : Room} {s : State} {args : Array Value} {rm : Room} {mc ms : Nat} (hts : ∀ w ∈ big, w.before args s = true) (hrc : rm.cells = mc) (hrs : rm.slots = ms) (hR : rm.frames + 1 ≤ R.frames ∧ 8 + (2 + 11) + rm.locals ≤ R.locals) : CallW R s args RX3 RX5 65 yX5_get cX5_get 2 (some .int) wyX5_get rm mc ms 1 := ⟨callB_of 1 hts (big_code ok_X5_get) rfl hrc hrs (hts (.initialized RX5) (in_r3 _ (List.mem_of_getElem? (i := 1) rfl))) (hts (.methodLink RX3 65 yX5_get) (in_r23 _ (List.mem_of_getElem? (i := 5) rfl))) (by decide +kernel) hR, (hts (.instanceMethod yX5_get) (in_r9 _ (List.mem_of_getElem? (i := 4) rfl))), (hts (.selects RX5 yX5_get yX5_get) (in_r9 _ (List.mem_of_getElem? (i := 5) rfl)))⟩
theorem cw_X3_68 {R : Room} {s : State} {args : Array Value} {rm : Room} {mc ms : Nat} (hts : ∀ w ∈ big, w.before args s = true) (hrc : rm.cells = mc) (hrs : rm.slots = ms) (hR : rm.frames + 1 ≤ R.frames ∧ 8 + (5 + 11) + rm.locals ≤ R.locals) : CallW R s args RX3 RX6 68 yX6_kindsSeen cX6_kindsSeen 5 (some .int) wyX6_kindsSeen rm mc ms 2 := ⟨callB_of 2 hts (big_code ok_X6_kindsSeen) rfl hrc hrs (hts (.initialized RX6) (in_r1 _ (List.mem_of_getElem? (i := 18) rfl))) (hts (.methodLink RX3 68 yX6_kindsSeen) (in_r23 _ (List.mem_of_getElem? (i := 6) rfl))) (by decide +kernel) hR, (hts (.instanceMethod yX6_kindsSeen) (in_r23 _ (List.mem_of_getElem? (i := 7) rfl))), (hts (.selects RX6 yX6_kindsSeen yX6_kindsSeen) (in_r23 _ (List.mem_of_getElem? (i := 8) rfl)))⟩
theorem cw_X3_74 {R : Room} {s : State} {args : Array Value} {rm : Room} {mc ms : Nat} (hts : ∀ w ∈ big, w.before args s = true) (hrc : rm.cells = mc) (hrs : rm.slots = ms) (hR : rm.frames + 1 ≤ R.frames ∧ 8 + (4 + 11) + rm.locals ≤ R.locals) : CallW R s args RX3 RX3 74 yX3_exitsFrom cX3_exitsFrom 4 (some .int) wyX3_exitsFrom rm mc ms 2 := ⟨callB_of 2 hts (big_code ok_X3_exitsFrom) rfl hrc hrs (hts (.initialized RX3) (in_r2 _ (List.mem_of_getElem? (i := 2) rfl))) (hts (.methodLink RX3 74 yX3_exitsFrom) (in_r23 _ (List.mem_of_getElem? (i := 10) rfl))) (by decide +kernel) hR, (hts (.instanceMethod yX3_exitsFrom) (in_r23 _ (List.mem_of_getElem? (i := 11) rfl))), (hts (.selects RX3 yX3_exitsFrom yX3_exitsFrom) (in_r23 _ (List.mem_of_getElem? (i := 12) rfl)))⟩
theorem cw_X3_83 {R : Room} {s : State} {args : Array Value} {rm : Room} {mc ms : Nat} (hts : ∀ w ∈ big, w.before args s = true) (hrc : rm.cells = mc) (hrs : rm.slots = ms) (hR : rm.frames + 1 ≤ R.frames ∧ 8 + (2 + 11) + rm.locals ≤ R.locals) : CallW R s args RX3 RX2 83 yX2_pathsAt cX2_pathsAt 2 (some .int) wyX2_pathsAt rm mc ms 1 := ⟨callB_of 1 hts (big_code ok_X2_pathsAt) rfl hrc hrs (hts (.initialized RX2) (in_r1 _ (List.mem_of_getElem? (i := 14) rfl))) (hts (.methodLink RX3 83 yX2_pathsAt) (in_r23 _ (List.mem_of_getElem? (i := 14) rfl))) (by decide +kernel) hR, (hts (.instanceMethod yX2_pathsAt) (in_r9 _ (List.mem_of_getElem? (i := 0) rfl))), (hts (.selects RX2 yX2_pathsAt yX2_pathsAt) (in_r9 _ (List.mem_of_getElem? (i := 1) rfl)))⟩
theorem cw_X3_80 {R : Room} {s : State} {args : Array Value} {rm : Room} {mc ms : Nat} (hts : ∀ w ∈ big, w.before args s = true) (hrc : rm.cells = mc) (hrs : rm.slots = ms) (hR : rm.frames + 1 ≤ R.frames ∧ 8 + (4 + 11) + rm.locals ≤ R.locals) : CallW R s args RX3 RX3 80 yX3_waysBehind cX3_waysBehind 4 (some .int) wyX3_waysBehind rm mc ms 3 := ⟨callB_of 3 hts (big_code ok_X3_waysBehind) rfl hrc hrs (hts (.initialized RX3) (in_r2 _ (List.mem_of_getElem? (i := 2) rfl))) (hts (.methodLink RX3 80 yX3_waysBehind) (in_r23 _ (List.mem_of_getElem? (i := 15) rfl))) (by decide +kernel) hR, (hts (.instanceMethod yX3_waysBehind) (in_r23 _ (List.mem_of_getElem? (i := 16) rfl))), (hts (.selects RX3 yX3_waysBehind yX3_waysBehind) (in_r23 _ (List.mem_of_getElem? (i := 17) rfl)))⟩
theorem cw_X3_86 {R : Room} {s : State} {args : Array Value} {rm : Room} {mc ms : Nat} (hts : ∀ w ∈ big, w.before args s = true) (hrc : rm.cells = mc) (hrs : rm.slots = ms) (hR : rm.frames + 1 ≤ R.frames ∧ 8 + (3 + 11) + rm.locals ≤ R.locals) : CallW R s args RX3 RX2 86 yX2_arcFrom cX2_arcFrom 3 (some .int) wyX2_arcFrom rm mc ms 2 := ⟨callB_of 2 hts (big_code ok_X2_arcFrom) rfl hrc hrs (hts (.initialized RX2) (in_r1 _ (List.mem_of_getElem? (i := 14) rfl))) (hts (.methodLink RX3 86 yX2_arcFrom) (in_r23 _ (List.mem_of_getElem? (i := 19) rfl))) (by decide +kernel) hR, (hts (.instanceMethod yX2_arcFrom) (in_r19 _ (List.mem_of_getElem? (i := 9) rfl))), (hts (.selects RX2 yX2_arcFrom yX2_arcFrom) (in_r19 _ (List.mem_of_getElem? (i := 10) rfl)))⟩
theorem cw_X3_61 {R : Room} {s : State} {args : Array Value} {rm : Room} {mc ms : Nat} (hts : ∀ w ∈ big, w.before args s = true) (hrc : rm.cells = mc) (hrs : rm.slots = ms) (hR : rm.frames + 1 ≤ R.frames ∧ 8 + (3 + 11) + rm.locals ≤ R.locals) : CallW R s args RX3 RX5 61 yX5_put cX5_put 3 none wyX5_put rm mc ms 2 := ⟨callB_of 2 hts (big_code ok_X5_put) rfl hrc hrs (hts (.initialized RX5) (in_r3 _ (List.mem_of_getElem? (i := 1) rfl))) (hts (.methodLink RX3 61 yX5_put) (in_r23 _ (List.mem_of_getElem? (i := 20) rfl))) (by decide +kernel) hR, (hts (.instanceMethod yX5_put) (in_r10 _ (List.mem_of_getElem? (i := 10) rfl))), (hts (.selects RX5 yX5_put yX5_put) (in_r10 _ (List.mem_of_getElem? (i := 11) rfl)))⟩
theorem cw_L_69 {R : Room} {s : State} {args : Array Value} {rm : Room} {mc ms : Nat} (hts : ∀ w ∈ big, w.before args s = true) (hrc : rm.cells = mc) (hrs : rm.slots = ms) (hR : rm.frames + 1 ≤ R.frames ∧ 8 + (2 + 11) + rm.locals ≤ R.locals) : CallW R s args RL RX10 69 yX10_ways cX10_ways 2 (some .int) wyX10_ways rm mc ms 1 := ⟨callB_of 1 hts (big_code ok_X10_ways) rfl hrc hrs (hts (.initialized RX10) (in_r1 _ (List.mem_of_getElem? (i := 5) rfl))) (hts (.methodLink RL 69 yX10_ways) (in_r23 _ (List.mem_of_getElem? (i := 21) rfl))) (by decide +kernel) hR, (hts (.instanceMethod yX10_ways) (in_r23 _ (List.mem_of_getElem? (i := 22) rfl))), (hts (.selects RX10 yX10_ways yX10_ways) (in_r23 _ (List.mem_of_getElem? (i := 23) rfl)))⟩
theorem cw_X10_159 {R : Room} {s : State} {args : Array Value} {rm : Room} {mc ms : Nat} (hts : ∀ w ∈ big, w.before args s = true) (hrc : rm.cells = mc) (hrs : rm.slots = ms) (hR : rm.frames + 1 ≤ R.frames ∧ 8 + (7 + 11) + rm.locals ≤ R.locals) : CallW R s args RX10 RX10 159 yX10_findWays cX10_findWays 7 none wyX10_findWays rm mc ms 0 := ⟨callB_of 0 hts (big_code ok_X10_findWays) rfl hrc hrs (hts (.initialized RX10) (in_r1 _ (List.mem_of_getElem? (i := 5) rfl))) (hts (.methodLink RX10 159 yX10_findWays) (in_r24 _ (List.mem_of_getElem? (i := 1) rfl))) (by decide +kernel) hR, (hts (.instanceMethod yX10_findWays) (in_r24 _ (List.mem_of_getElem? (i := 2) rfl))), (hts (.selects RX10 yX10_findWays yX10_findWays) (in_r24 _ (List.mem_of_getElem? (i := 3) rfl)))⟩
theorem cw_X10_153 {R : Room} {s : State} {args : Array Value} {rm : Room} {mc ms : Nat} (hts : ∀ w ∈ big, w.before args s = true) (hrc : rm.cells = mc) (hrs : rm.slots = ms) (hR : rm.frames + 1 ≤ R.frames ∧ 8 + (7 + 11) + rm.locals ≤ R.locals) : CallW R s args RX10 RX10 153 yX10_isNoted cX10_isNoted 7 (some .boolean) wyX10_isNoted rm mc ms 3 := ⟨callB_of 3 hts (big_code ok_X10_isNoted) rfl hrc hrs (hts (.initialized RX10) (in_r1 _ (List.mem_of_getElem? (i := 5) rfl))) (hts (.methodLink RX10 153 yX10_isNoted) (in_r24 _ (List.mem_of_getElem? (i := 5) rfl))) (by decide +kernel) hR, (hts (.instanceMethod yX10_isNoted) (in_r24 _ (List.mem_of_getElem? (i := 6) rfl))), (hts (.selects RX10 yX10_isNoted yX10_isNoted) (in_r24 _ (List.mem_of_getElem? (i := 7) rfl)))⟩
theorem cw_X10_156 {R : Room} {s : State} {args : Array Value} {rm : Room} {mc ms : Nat} (hts : ∀ w ∈ big, w.before args s = true) (hrc : rm.cells = mc) (hrs : rm.slots = ms) (hR : rm.frames + 1 ≤ R.frames ∧ 8 + (5 + 11) + rm.locals ≤ R.locals) : CallW R s args RX10 RX10 156 yX10_mayGo cX10_mayGo 5 (some .boolean) wyX10_mayGo rm mc ms 3 := ⟨callB_of 3 hts (big_code ok_X10_mayGo) rfl hrc hrs (hts (.initialized RX10) (in_r1 _ (List.mem_of_getElem? (i := 5) rfl))) (hts (.methodLink RX10 156 yX10_mayGo) (in_r24 _ (List.mem_of_getElem? (i := 9) rfl))) (by decide +kernel) hR, (hts (.instanceMethod yX10_mayGo) (in_r24 _ (List.mem_of_getElem? (i := 10) rfl))), (hts (.selects RX10 yX10_mayGo yX10_mayGo) (in_r24 _ (List.mem_of_getElem? (i := 11) rfl)))⟩
theorem cw_L_70 {R : Room} {s : State} {args : Array Value} {rm : Room} {mc ms : Nat} (hts : ∀ w ∈ big, w.before args s = true) (hrc : rm.cells = mc) (hrs : rm.slots = ms) (hR : rm.frames + 1 ≤ R.frames ∧ 8 + (3 + 11) + rm.locals ≤ R.locals) : CallW R s args RL RX9 70 yX9_only cX9_only 3 (some .int) wyX9_only rm mc ms 2 := ⟨callB_of 2 hts (big_code ok_X9_only) rfl hrc hrs (hts (.initialized RX9) (in_r1 _ (List.mem_of_getElem? (i := 2) rfl))) (hts (.methodLink RL 70 yX9_only) (in_r24 _ (List.mem_of_getElem? (i := 13) rfl))) (by decide +kernel) hR, (hts (.instanceMethod yX9_only) (in_r24 _ (List.mem_of_getElem? (i := 14) rfl))), (hts (.selects RX9 yX9_only yX9_only) (in_r24 _ (List.mem_of_getElem? (i := 15) rfl)))⟩
theorem cw_X9_174 {R : Room} {s : State} {args : Array Value} {rm : Room} {mc ms : Nat} (hts : ∀ w ∈ big, w.before args s = true) (hrc : rm.cells = mc) (hrs : rm.slots = ms) (hR : rm.frames + 1 ≤ R.frames ∧ 8 + (6 + 11) + rm.locals ≤ R.locals) : CallW R s args RX9 RX3 174 yX3_placeOnTheWay cX3_placeOnTheWay 6 (some .int) wyX3_placeOnTheWay rm mc ms 2 := ⟨callB_of 2 hts (big_code ok_X3_placeOnTheWay) rfl hrc hrs (hts (.initialized RX3) (in_r2 _ (List.mem_of_getElem? (i := 2) rfl))) (hts (.methodLink RX9 174 yX3_placeOnTheWay) (in_r24 _ (List.mem_of_getElem? (i := 17) rfl))) (by decide +kernel) hR, (hts (.instanceMethod yX3_placeOnTheWay) (in_r24 _ (List.mem_of_getElem? (i := 18) rfl))), (hts (.selects RX3 yX3_placeOnTheWay yX3_placeOnTheWay) (in_r24 _ (List.mem_of_getElem? (i := 19) rfl)))⟩
theorem cw_X3_89 {R : Room} {s : State} {args : Array Value} {rm : Room} {mc ms : Nat} (hts : ∀ w ∈ big, w.before args s = true) (hrc : rm.cells = mc) (hrs : rm.slots = ms) (hR : rm.frames + 1 ≤ R.frames ∧ 8 + (6 + 11) + rm.locals ≤ R.locals) : CallW R s args RX3 RX3 89 yX3_pathOn cX3_pathOn 6 (some .int) wyX3_pathOn rm mc ms 3 := ⟨callB_of 3 hts (big_code ok_X3_pathOn) rfl hrc hrs (hts (.initialized RX3) (in_r2 _ (List.mem_of_getElem? (i := 2) rfl))) (hts (.methodLink RX3 89 yX3_pathOn) (in_r24 _ (List.mem_of_getElem? (i := 21) rfl))) (by decide +kernel) hR, (hts (.instanceMethod yX3_pathOn) (in_r24 _ (List.mem_of_getElem? (i := 22) rfl))), (hts (.selects RX3 yX3_pathOn yX3_pathOn) (in_r24 _ (List.mem_of_getElem? (i := 23) rfl)))⟩
theorem cw_X3_92 {R : Room} {s : State} {args : Array Value} {rm : Room} {mc ms : Nat} (hts : ∀ w ∈ big, w.before args s = true) (hrc : rm.cells = mc) (hrs : rm.slots = ms) (hR : rm.frames + 1 ≤ R.frames ∧ 8 + (3 + 11) + rm.locals ≤ R.locals) : CallW R s args RX3 RX2 92 yX2_otherEnd cX2_otherEnd 3 (some .int) wyX2_otherEnd rm mc ms 2 := ⟨callB_of 2 hts (big_code ok_X2_otherEnd) rfl hrc hrs (hts (.initialized RX2) (in_r1 _ (List.mem_of_getElem? (i := 14) rfl))) (hts (.methodLink RX3 92 yX2_otherEnd) (in_r25 _ (List.mem_of_getElem? (i := 1) rfl))) (by decide +kernel) hR, (hts (.instanceMethod yX2_otherEnd) (in_r25 _ (List.mem_of_getElem? (i := 2) rfl))), (hts (.selects RX2 yX2_otherEnd yX2_otherEnd) (in_r25 _ (List.mem_of_getElem? (i := 3) rfl)))⟩
theorem cw_X2_66 {R : Room} {s : State} {args : Array Value} {rm : Room} {mc ms : Nat} (hts : ∀ w ∈ big, w.before args s = true) (hrc : rm.cells = mc) (hrs : rm.slots = ms) (hR : rm.frames + 1 ≤ R.frames ∧ 8 + (3 + 11) + rm.locals ≤ R.locals) : CallW R s args RX2 RX2 66 yX2_arcFrom cX2_arcFrom 3 (some .int) wyX2_arcFrom rm mc ms 2 := ⟨callB_of 2 hts (big_code ok_X2_arcFrom) rfl hrc hrs (hts (.initialized RX2) (in_r1 _ (List.mem_of_getElem? (i := 14) rfl))) (hts (.methodLink RX2 66 yX2_arcFrom) (in_r25 _ (List.mem_of_getElem? (i := 5) rfl))) (by decide +kernel) hR, (hts (.instanceMethod yX2_arcFrom) (in_r19 _ (List.mem_of_getElem? (i := 9) rfl))), (hts (.selects RX2 yX2_arcFrom yX2_arcFrom) (in_r19 _ (List.mem_of_getElem? (i := 10) rfl)))⟩
theorem cw_X2_70 {R : Room} {s : State} {args : Array Value} {rm : Room} {mc ms : Nat} (hts : ∀ w ∈ big, w.before args s = true) (hrc : rm.cells = mc) (hrs : rm.slots = ms) (hR : rm.frames + 1 ≤ R.frames ∧ 8 + (2 + 11) + rm.locals ≤ R.locals) : CallW R s args RX2 RX2 70 yX2_endOf cX2_endOf 2 (some .int) wyX2_endOf rm mc ms 1 := ⟨callB_of 1 hts (big_code ok_X2_endOf) rfl hrc hrs (hts (.initialized RX2) (in_r1 _ (List.mem_of_getElem? (i := 14) rfl))) (hts (.methodLink RX2 70 yX2_endOf) (in_r25 _ (List.mem_of_getElem? (i := 6) rfl))) (by decide +kernel) hR, (hts (.instanceMethod yX2_endOf) (in_r19 _ (List.mem_of_getElem? (i := 13) rfl))), (hts (.selects RX2 yX2_endOf yX2_endOf) (in_r19 _ (List.mem_of_getElem? (i := 14) rfl)))⟩
theorem cw_L_73 {R : Room} {s : State} {args : Array Value} {rm : Room} {mc ms : Nat} (hts : ∀ w ∈ big, w.before args s = true) (hrc : rm.cells = mc) (hrs : rm.slots = ms) (hR : rm.frames + 1 ≤ R.frames ∧ 8 + (9 + 11) + rm.locals ≤ R.locals) : CallW R s args RL RX10 73 yX10_only cX10_only 9 (some .int) wyX10_only rm mc ms 2 := ⟨callB_of 2 hts (big_code ok_X10_only) rfl hrc hrs (hts (.initialized RX10) (in_r1 _ (List.mem_of_getElem? (i := 5) rfl))) (hts (.methodLink RL 73 yX10_only) (in_r25 _ (List.mem_of_getElem? (i := 7) rfl))) (by decide +kernel) hR, (hts (.instanceMethod yX10_only) (in_r25 _ (List.mem_of_getElem? (i := 8) rfl))), (hts (.selects RX10 yX10_only yX10_only) (in_r25 _ (List.mem_of_getElem? (i := 9) rfl)))⟩
theorem cw_L_74 {R : Room} {s : State} {args : Array Value} {rm : Room} {mc ms : Nat} (hts : ∀ w ∈ big, w.before args s = true) (hrc : rm.cells = mc) (hrs : rm.slots = ms) (hR : rm.frames + 1 ≤ R.frames ∧ 8 + (2 + 11) + rm.locals ≤ R.locals) : CallW R s args RL RX9 74 yX9_route cX9_route 2 (some .int) wyX9_route rm mc ms 1 := ⟨callB_of 1 hts (big_code ok_X9_route) rfl hrc hrs (hts (.initialized RX9) (in_r1 _ (List.mem_of_getElem? (i := 2) rfl))) (hts (.methodLink RL 74 yX9_route) (in_r25 _ (List.mem_of_getElem? (i := 11) rfl))) (by decide +kernel) hR, (hts (.instanceMethod yX9_route) (in_r25 _ (List.mem_of_getElem? (i := 12) rfl))), (hts (.selects RX9 yX9_route yX9_route) (in_r25 _ (List.mem_of_getElem? (i := 13) rfl)))⟩
theorem cw_X9_177 {R : Room} {s : State} {args : Array Value} {rm : Room} {mc ms : Nat} (hts : ∀ w ∈ big, w.before args s = true) (hrc : rm.cells = mc) (hrs : rm.slots = ms) (hR : rm.frames + 1 ≤ R.frames ∧ 8 + (2 + 11) + rm.locals ≤ R.locals) : CallW R s args RX9 RX4 177 yX4_mayGoOnTo cX4_mayGoOnTo 2 (some .boolean) wyX4_mayGoOnTo rm mc ms 1 := ⟨callB_of 1 hts (big_code ok_X4_mayGoOnTo) rfl hrc hrs (hts (.initialized RX4) (in_r2 _ (List.mem_of_getElem? (i := 6) rfl))) (hts (.methodLink RX9 177 yX4_mayGoOnTo) (in_r25 _ (List.mem_of_getElem? (i := 15) rfl))) (by decide +kernel) hR, (hts (.instanceMethod yX4_mayGoOnTo) (in_r25 _ (List.mem_of_getElem? (i := 16) rfl))), (hts (.selects RX4 yX4_mayGoOnTo yX4_mayGoOnTo) (in_r25 _ (List.mem_of_getElem? (i := 17) rfl)))⟩
theorem cw_X4_40 {R : Room} {s : State} {args : Array Value} {rm : Room} {mc ms : Nat} (hts : ∀ w ∈ big, w.before args s = true) (hrc : rm.cells = mc) (hrs : rm.slots = ms) (hR : rm.frames + 1 ≤ R.frames ∧ 8 + (1 + 11) + rm.locals ≤ R.locals) : CallW R s args RX4 RX4 40 yX4_placeCount cX4_placeCount 1 (some .int) wyX4_placeCount rm mc ms 0 := ⟨callB_of 0 hts (big_code ok_X4_placeCount) rfl hrc hrs (hts (.initialized RX4) (in_r2 _ (List.mem_of_getElem? (i := 6) rfl))) (hts (.methodLink RX4 40 yX4_placeCount) (in_r25 _ (List.mem_of_getElem? (i := 19) rfl))) (by decide +kernel) hR, (hts (.instanceMethod yX4_placeCount) (in_r25 _ (List.mem_of_getElem? (i := 20) rfl))), (hts (.selects RX4 yX4_placeCount yX4_placeCount) (in_r25 _ (List.mem_of_getElem? (i := 21) rfl)))⟩
theorem cw_X4_32 {R : Room} {s : State} {args : Array Value} {rm : Room} {mc ms : Nat} (hts : ∀ w ∈ big, w.before args s = true) (hrc : rm.cells = mc) (hrs : rm.slots = ms) (hR : rm.frames + 1 ≤ R.frames ∧ 8 + (1 + 11) + rm.locals ≤ R.locals) : CallW R s args RX4 RX5 32 yX5_size cX5_size 1 (some .int) wyX5_size rm mc ms 0 := ⟨callB_of 0 hts (big_code ok_X5_size) rfl hrc hrs (hts (.initialized RX5) (in_r3 _ (List.mem_of_getElem? (i := 1) rfl))) (hts (.methodLink RX4 32 yX5_size) (in_r25 _ (List.mem_of_getElem? (i := 23) rfl))) (by decide +kernel) hR, (hts (.instanceMethod yX5_size) (in_r9 _ (List.mem_of_getElem? (i := 19) rfl))), (hts (.selects RX5 yX5_size yX5_size) (in_r9 _ (List.mem_of_getElem? (i := 20) rfl)))⟩
theorem cw_X4_43 {R : Room} {s : State} {args : Array Value} {rm : Room} {mc ms : Nat} (hts : ∀ w ∈ big, w.before args s = true) (hrc : rm.cells = mc) (hrs : rm.slots = ms) (hR : rm.frames + 1 ≤ R.frames ∧ 8 + (2 + 11) + rm.locals ≤ R.locals) : CallW R s args RX4 RX4 43 yX4_passes cX4_passes 2 (some .boolean) wyX4_passes rm mc ms 1 := ⟨callB_of 1 hts (big_code ok_X4_passes) rfl hrc hrs (hts (.initialized RX4) (in_r2 _ (List.mem_of_getElem? (i := 6) rfl))) (hts (.methodLink RX4 43 yX4_passes) (in_r26 _ (List.mem_of_getElem? (i := 0) rfl))) (by decide +kernel) hR, (hts (.instanceMethod yX4_passes) (in_r26 _ (List.mem_of_getElem? (i := 1) rfl))), (hts (.selects RX4 yX4_passes yX4_passes) (in_r26 _ (List.mem_of_getElem? (i := 2) rfl)))⟩
theorem cw_X4_36 {R : Room} {s : State} {args : Array Value} {rm : Room} {mc ms : Nat} (hts : ∀ w ∈ big, w.before args s = true) (hrc : rm.cells = mc) (hrs : rm.slots = ms) (hR : rm.frames + 1 ≤ R.frames ∧ 8 + (3 + 11) + rm.locals ≤ R.locals) : CallW R s args RX4 RX5 36 yX5_has cX5_has 3 (some .boolean) wyX5_has rm mc ms 1 := ⟨callB_of 1 hts (big_code ok_X5_has) rfl hrc hrs (hts (.initialized RX5) (in_r3 _ (List.mem_of_getElem? (i := 1) rfl))) (hts (.methodLink RX4 36 yX5_has) (in_r26 _ (List.mem_of_getElem? (i := 4) rfl))) (by decide +kernel) hR, (hts (.instanceMethod yX5_has) (in_r26 _ (List.mem_of_getElem? (i := 5) rfl))), (hts (.selects RX5 yX5_has yX5_has) (in_r26 _ (List.mem_of_getElem? (i := 6) rfl)))⟩
theorem cw_X5_19 {R : Room} {s : State} {args : Array Value} {rm : Room} {mc ms : Nat} (hts : ∀ w ∈ big, w.before args s = true) (hrc : rm.cells = mc) (hrs : rm.slots = ms) (hR : rm.frames + 1 ≤ R.frames ∧ 8 + (2 + 11) + rm.locals ≤ R.locals) : CallW R s args RX5 RX5 19 yX5_get cX5_get 2 (some .int) wyX5_get rm mc ms 1 := ⟨callB_of 1 hts (big_code ok_X5_get) rfl hrc hrs (hts (.initialized RX5) (in_r3 _ (List.mem_of_getElem? (i := 1) rfl))) (hts (.methodLink RX5 19 yX5_get) (in_r26 _ (List.mem_of_getElem? (i := 8) rfl))) (by decide +kernel) hR, (hts (.instanceMethod yX5_get) (in_r9 _ (List.mem_of_getElem? (i := 4) rfl))), (hts (.selects RX5 yX5_get yX5_get) (in_r9 _ (List.mem_of_getElem? (i := 5) rfl)))⟩
theorem cw_X4_46 {R : Room} {s : State} {args : Array Value} {rm : Room} {mc ms : Nat} (hts : ∀ w ∈ big, w.before args s = true) (hrc : rm.cells = mc) (hrs : rm.slots = ms) (hR : rm.frames + 1 ≤ R.frames ∧ 8 + (2 + 11) + rm.locals ≤ R.locals) : CallW R s args RX4 RX5 46 yX5_get cX5_get 2 (some .int) wyX5_get rm mc ms 1 := ⟨callB_of 1 hts (big_code ok_X5_get) rfl hrc hrs (hts (.initialized RX5) (in_r3 _ (List.mem_of_getElem? (i := 1) rfl))) (hts (.methodLink RX4 46 yX5_get) (in_r26 _ (List.mem_of_getElem? (i := 9) rfl))) (by decide +kernel) hR, (hts (.instanceMethod yX5_get) (in_r9 _ (List.mem_of_getElem? (i := 4) rfl))), (hts (.selects RX5 yX5_get yX5_get) (in_r9 _ (List.mem_of_getElem? (i := 5) rfl)))⟩
theorem cw_X4_50 {R : Room} {s : State} {args : Array Value} {rm : Room} {mc ms : Nat} (hts : ∀ w ∈ big, w.before args s = true) (hrc : rm.cells = mc) (hrs : rm.slots = ms) (hR : rm.frames + 1 ≤ R.frames ∧ 8 + (4 + 11) + rm.locals ≤ R.locals) : CallW R s args RX4 RX2 50 yX2_joining cX2_joining 4 (some .int) wyX2_joining rm mc ms 2 := ⟨callB_of 2 hts (big_code ok_X2_joining) rfl hrc hrs (hts (.initialized RX2) (in_r1 _ (List.mem_of_getElem? (i := 14) rfl))) (hts (.methodLink RX4 50 yX2_joining) (in_r26 _ (List.mem_of_getElem? (i := 10) rfl))) (by decide +kernel) hR, (hts (.instanceMethod yX2_joining) (in_r8 _ (List.mem_of_getElem? (i := 20) rfl))), (hts (.selects RX2 yX2_joining yX2_joining) (in_r8 _ (List.mem_of_getElem? (i := 21) rfl)))⟩
theorem cw_X9_180 {R : Room} {s : State} {args : Array Value} {rm : Room} {mc ms : Nat} (hts : ∀ w ∈ big, w.before args s = true) (hrc : rm.cells = mc) (hrs : rm.slots = ms) (hR : rm.frames + 1 ≤ R.frames ∧ 8 + (1 + 11) + rm.locals ≤ R.locals) : CallW R s args RX9 RX4 180 yX4_placeCount cX4_placeCount 1 (some .int) wyX4_placeCount rm mc ms 0 := ⟨callB_of 0 hts (big_code ok_X4_placeCount) rfl hrc hrs (hts (.initialized RX4) (in_r2 _ (List.mem_of_getElem? (i := 6) rfl))) (hts (.methodLink RX9 180 yX4_placeCount) (in_r26 _ (List.mem_of_getElem? (i := 11) rfl))) (by decide +kernel) hR, (hts (.instanceMethod yX4_placeCount) (in_r25 _ (List.mem_of_getElem? (i := 20) rfl))), (hts (.selects RX4 yX4_placeCount yX4_placeCount) (in_r25 _ (List.mem_of_getElem? (i := 21) rfl)))⟩
theorem cw_X9_183 {R : Room} {s : State} {args : Array Value} {rm : Room} {mc ms : Nat} (hts : ∀ w ∈ big, w.before args s = true) (hrc : rm.cells = mc) (hrs : rm.slots = ms) (hR : rm.frames + 1 ≤ R.frames ∧ 8 + (2 + 11) + rm.locals ≤ R.locals) : CallW R s args RX9 RX4 183 yX4_goOnTo cX4_goOnTo 2 (some .int) wyX4_goOnTo rm mc ms 1 := ⟨callB_of 1 hts (big_code ok_X4_goOnTo) rfl hrc hrs (hts (.initialized RX4) (in_r2 _ (List.mem_of_getElem? (i := 6) rfl))) (hts (.methodLink RX9 183 yX4_goOnTo) (in_r26 _ (List.mem_of_getElem? (i := 12) rfl))) (by decide +kernel) hR, (hts (.instanceMethod yX4_goOnTo) (in_r26 _ (List.mem_of_getElem? (i := 13) rfl))), (hts (.selects RX4 yX4_goOnTo yX4_goOnTo) (in_r26 _ (List.mem_of_getElem? (i := 14) rfl)))⟩
theorem cw_X4_56 {R : Room} {s : State} {args : Array Value} {rm : Room} {mc ms : Nat} (hts : ∀ w ∈ big, w.before args s = true) (hrc : rm.cells = mc) (hrs : rm.slots = ms) (hR : rm.frames + 1 ≤ R.frames ∧ 8 + (2 + 11) + rm.locals ≤ R.locals) : CallW R s args RX4 RX5 56 yX5_push cX5_push 2 (some .int) wyX5_push rm mc ms 1 := ⟨callB_of 1 hts (big_code ok_X5_push) rfl hrc hrs (hts (.initialized RX5) (in_r3 _ (List.mem_of_getElem? (i := 1) rfl))) (hts (.methodLink RX4 56 yX5_push) (in_r26 _ (List.mem_of_getElem? (i := 16) rfl))) (by decide +kernel) hR, (hts (.instanceMethod yX5_push) (in_r10 _ (List.mem_of_getElem? (i := 4) rfl))), (hts (.selects RX5 yX5_push yX5_push) (in_r10 _ (List.mem_of_getElem? (i := 5) rfl)))⟩
theorem cw_L_77 {R : Room} {s : State} {args : Array Value} {rm : Room} {mc ms : Nat} (hts : ∀ w ∈ big, w.before args s = true) (hrc : rm.cells = mc) (hrs : rm.slots = ms) (hR : rm.frames + 1 ≤ R.frames ∧ 8 + (3 + 11) + rm.locals ≤ R.locals) : CallW R s args RL RX10 77 yX10_route cX10_route 3 (some .int) wyX10_route rm mc ms 1 := ⟨callB_of 1 hts (big_code ok_X10_route) rfl hrc hrs (hts (.initialized RX10) (in_r1 _ (List.mem_of_getElem? (i := 5) rfl))) (hts (.methodLink RL 77 yX10_route) (in_r26 _ (List.mem_of_getElem? (i := 17) rfl))) (by decide +kernel) hR, (hts (.instanceMethod yX10_route) (in_r26 _ (List.mem_of_getElem? (i := 18) rfl))), (hts (.selects RX10 yX10_route yX10_route) (in_r26 _ (List.mem_of_getElem? (i := 19) rfl)))⟩
theorem cw_L_78 {R : Room} {s : State} {args : Array Value} {rm : Room} {mc ms : Nat} (hts : ∀ w ∈ big, w.before args s = true) (hrc : rm.cells = mc) (hrs : rm.slots = ms) (hR : rm.frames + 1 ≤ R.frames ∧ 8 + (1 + 11) + rm.locals ≤ R.locals) : CallW R s args RL RX9 78 yX9_unroute cX9_unroute 1 (some .int) wyX9_unroute rm mc ms 0 := ⟨callB_of 0 hts (big_code ok_X9_unroute) rfl hrc hrs (hts (.initialized RX9) (in_r1 _ (List.mem_of_getElem? (i := 2) rfl))) (hts (.methodLink RL 78 yX9_unroute) (in_r26 _ (List.mem_of_getElem? (i := 22) rfl))) (by decide +kernel) hR, (hts (.instanceMethod yX9_unroute) (in_r26 _ (List.mem_of_getElem? (i := 23) rfl))), (hts (.selects RX9 yX9_unroute yX9_unroute) (in_r27 _ (List.mem_of_getElem? (i := 0) rfl)))⟩
theorem cw_X9_186 {R : Room} {s : State} {args : Array Value} {rm : Room} {mc ms : Nat} (hts : ∀ w ∈ big, w.before args s = true) (hrc : rm.cells = mc) (hrs : rm.slots = ms) (hR : rm.frames + 1 ≤ R.frames ∧ 8 + (1 + 11) + rm.locals ≤ R.locals) : CallW R s args RX9 RX4 186 yX4_dropAll cX4_dropAll 1 (some .int) wyX4_dropAll rm mc ms 0 := ⟨callB_of 0 hts (big_code ok_X4_dropAll) rfl hrc hrs (hts (.initialized RX4) (in_r2 _ (List.mem_of_getElem? (i := 6) rfl))) (hts (.methodLink RX9 186 yX4_dropAll) (in_r27 _ (List.mem_of_getElem? (i := 2) rfl))) (by decide +kernel) hR, (hts (.instanceMethod yX4_dropAll) (in_r27 _ (List.mem_of_getElem? (i := 3) rfl))), (hts (.selects RX4 yX4_dropAll yX4_dropAll) (in_r27 _ (List.mem_of_getElem? (i := 4) rfl)))⟩
theorem cw_X4_59 {R : Room} {s : State} {args : Array Value} {rm : Room} {mc ms : Nat} (hts : ∀ w ∈ big, w.before args s = true) (hrc : rm.cells = mc) (hrs : rm.slots = ms) (hR : rm.frames + 1 ≤ R.frames ∧ 8 + (2 + 11) + rm.locals ≤ R.locals) : CallW R s args RX4 RX5 59 yX5_clear cX5_clear 2 (some .int) wyX5_clear rm mc ms 0 := ⟨callB_of 0 hts (big_code ok_X5_clear) rfl hrc hrs (hts (.initialized RX5) (in_r3 _ (List.mem_of_getElem? (i := 1) rfl))) (hts (.methodLink RX4 59 yX5_clear) (in_r27 _ (List.mem_of_getElem? (i := 6) rfl))) (by decide +kernel) hR, (hts (.instanceMethod yX5_clear) (in_r18 _ (List.mem_of_getElem? (i := 14) rfl))), (hts (.selects RX5 yX5_clear yX5_clear) (in_r18 _ (List.mem_of_getElem? (i := 15) rfl)))⟩
theorem cw_L_81 {R : Room} {s : State} {args : Array Value} {rm : Room} {mc ms : Nat} (hts : ∀ w ∈ big, w.before args s = true) (hrc : rm.cells = mc) (hrs : rm.slots = ms) (hR : rm.frames + 1 ≤ R.frames ∧ 8 + (2 + 11) + rm.locals ≤ R.locals) : CallW R s args RL RX10 81 yX10_unroute cX10_unroute 2 (some .int) wyX10_unroute rm mc ms 0 := ⟨callB_of 0 hts (big_code ok_X10_unroute) rfl hrc hrs (hts (.initialized RX10) (in_r1 _ (List.mem_of_getElem? (i := 5) rfl))) (hts (.methodLink RL 81 yX10_unroute) (in_r27 _ (List.mem_of_getElem? (i := 7) rfl))) (by decide +kernel) hR, (hts (.instanceMethod yX10_unroute) (in_r27 _ (List.mem_of_getElem? (i := 8) rfl))), (hts (.selects RX10 yX10_unroute yX10_unroute) (in_r27 _ (List.mem_of_getElem? (i := 9) rfl)))⟩
theorem cw_L_82 {R : Room} {s : State} {args : Array Value} {rm : Room} {mc ms : Nat} (hts : ∀ w ∈ big, w.before args s = true) (hrc : rm.cells = mc) (hrs : rm.slots = ms) (hR : rm.frames + 1 ≤ R.frames ∧ 8 + (2 + 11) + rm.locals ≤ R.locals) : CallW R s args RL RX9 82 yX9_needed cX9_needed 2 (some .int) wyX9_needed rm mc ms 1 := ⟨callB_of 1 hts (big_code ok_X9_needed) rfl hrc hrs (hts (.initialized RX9) (in_r1 _ (List.mem_of_getElem? (i := 2) rfl))) (hts (.methodLink RL 82 yX9_needed) (in_r27 _ (List.mem_of_getElem? (i := 11) rfl))) (by decide +kernel) hR, (hts (.instanceMethod yX9_needed) (in_r27 _ (List.mem_of_getElem? (i := 12) rfl))), (hts (.selects RX9 yX9_needed yX9_needed) (in_r27 _ (List.mem_of_getElem? (i := 13) rfl)))⟩
theorem cw_X9_187 {R : Room} {s : State} {args : Array Value} {rm : Room} {mc ms : Nat} (hts : ∀ w ∈ big, w.before args s = true) (hrc : rm.cells = mc) (hrs : rm.slots = ms) (hR : rm.frames + 1 ≤ R.frames ∧ 8 + (8 + 11) + rm.locals ≤ R.locals) : CallW R s args RX9 RX4 187 yX4_marksNeeded cX4_marksNeeded 8 (some .int) wyX4_marksNeeded rm mc ms 1 := ⟨callB_of 1 hts (big_code ok_X4_marksNeeded) rfl hrc hrs (hts (.initialized RX4) (in_r2 _ (List.mem_of_getElem? (i := 6) rfl))) (hts (.methodLink RX9 187 yX4_marksNeeded) (in_r27 _ (List.mem_of_getElem? (i := 15) rfl))) (by decide +kernel) hR, (hts (.instanceMethod yX4_marksNeeded) (in_r27 _ (List.mem_of_getElem? (i := 16) rfl))), (hts (.selects RX4 yX4_marksNeeded yX4_marksNeeded) (in_r27 _ (List.mem_of_getElem? (i := 17) rfl)))⟩
theorem cw_X4_62 {R : Room} {s : State} {args : Array Value} {rm : Room} {mc ms : Nat} (hts : ∀ w ∈ big, w.before args s = true) (hrc : rm.cells = mc) (hrs : rm.slots = ms) (hR : rm.frames + 1 ≤ R.frames ∧ 8 + (6 + 11) + rm.locals ≤ R.locals) : CallW R s args RX4 RX4 62 yX4_mayGoBadlyWrong cX4_mayGoBadlyWrong 6 (some .boolean) wyX4_mayGoBadlyWrong rm mc ms 3 := ⟨callB_of 3 hts (big_code ok_X4_mayGoBadlyWrong) rfl hrc hrs (hts (.initialized RX4) (in_r2 _ (List.mem_of_getElem? (i := 6) rfl))) (hts (.methodLink RX4 62 yX4_mayGoBadlyWrong) (in_r27 _ (List.mem_of_getElem? (i := 19) rfl))) (by decide +kernel) hR, (hts (.instanceMethod yX4_mayGoBadlyWrong) (in_r27 _ (List.mem_of_getElem? (i := 20) rfl))), (hts (.selects RX4 yX4_mayGoBadlyWrong yX4_mayGoBadlyWrong) (in_r27 _ (List.mem_of_getElem? (i := 21) rfl)))⟩
theorem cw_X4_71 {R : Room} {s : State} {args : Array Value} {rm : Room} {mc ms : Nat} (hts : ∀ w ∈ big, w.before args s = true) (hrc : rm.cells = mc) (hrs : rm.slots = ms) (hR : rm.frames + 1 ≤ R.frames ∧ 8 + (2 + 11) + rm.locals ≤ R.locals) : CallW R s args RX4 RX2 71 yX2_pathsAt cX2_pathsAt 2 (some .int) wyX2_pathsAt rm mc ms 1 := ⟨callB_of 1 hts (big_code ok_X2_pathsAt) rfl hrc hrs (hts (.initialized RX2) (in_r1 _ (List.mem_of_getElem? (i := 14) rfl))) (hts (.methodLink RX4 71 yX2_pathsAt) (in_r27 _ (List.mem_of_getElem? (i := 23) rfl))) (by decide +kernel) hR, (hts (.instanceMethod yX2_pathsAt) (in_r9 _ (List.mem_of_getElem? (i := 0) rfl))), (hts (.selects RX2 yX2_pathsAt yX2_pathsAt) (in_r9 _ (List.mem_of_getElem? (i := 1) rfl)))⟩
theorem cw_X4_77 {R : Room} {s : State} {args : Array Value} {rm : Room} {mc ms : Nat} (hts : ∀ w ∈ big, w.before args s = true) (hrc : rm.cells = mc) (hrs : rm.slots = ms) (hR : rm.frames + 1 ≤ R.frames ∧ 8 + (1 + 11) + rm.locals ≤ R.locals) : CallW R s args RX4 RX2 77 yX2_pathCount cX2_pathCount 1 (some .int) wyX2_pathCount rm mc ms 0 := ⟨callB_of 0 hts (big_code ok_X2_pathCount) rfl hrc hrs (hts (.initialized RX2) (in_r1 _ (List.mem_of_getElem? (i := 14) rfl))) (hts (.methodLink RX4 77 yX2_pathCount) (in_r28 _ (List.mem_of_getElem? (i := 0) rfl))) (by decide +kernel) hR, (hts (.instanceMethod yX2_pathCount) (in_r9 _ (List.mem_of_getElem? (i := 15) rfl))), (hts (.selects RX2 yX2_pathCount yX2_pathCount) (in_r9 _ (List.mem_of_getElem? (i := 16) rfl)))⟩
theorem cw_X4_80 {R : Room} {s : State} {args : Array Value} {rm : Room} {mc ms : Nat} (hts : ∀ w ∈ big, w.before args s = true) (hrc : rm.cells = mc) (hrs : rm.slots = ms) (hR : rm.frames + 1 ≤ R.frames ∧ 8 + (4 + 11) + rm.locals ≤ R.locals) : CallW R s args RX4 RX4 80 yX4_isHarmless cX4_isHarmless 4 (some .boolean) wyX4_isHarmless rm mc ms 2 := ⟨callB_of 2 hts (big_code ok_X4_isHarmless) rfl hrc hrs (hts (.initialized RX4) (in_r2 _ (List.mem_of_getElem? (i := 6) rfl))) (hts (.methodLink RX4 80 yX4_isHarmless) (in_r28 _ (List.mem_of_getElem? (i := 1) rfl))) (by decide +kernel) hR, (hts (.instanceMethod yX4_isHarmless) (in_r28 _ (List.mem_of_getElem? (i := 2) rfl))), (hts (.selects RX4 yX4_isHarmless yX4_isHarmless) (in_r28 _ (List.mem_of_getElem? (i := 3) rfl)))⟩
theorem cw_X4_84 {R : Room} {s : State} {args : Array Value} {rm : Room} {mc ms : Nat} (hts : ∀ w ∈ big, w.before args s = true) (hrc : rm.cells = mc) (hrs : rm.slots = ms) (hR : rm.frames + 1 ≤ R.frames ∧ 8 + (3 + 11) + rm.locals ≤ R.locals) : CallW R s args RX4 RX2 84 yX2_otherEnd cX2_otherEnd 3 (some .int) wyX2_otherEnd rm mc ms 2 := ⟨callB_of 2 hts (big_code ok_X2_otherEnd) rfl hrc hrs (hts (.initialized RX2) (in_r1 _ (List.mem_of_getElem? (i := 14) rfl))) (hts (.methodLink RX4 84 yX2_otherEnd) (in_r28 _ (List.mem_of_getElem? (i := 5) rfl))) (by decide +kernel) hR, (hts (.instanceMethod yX2_otherEnd) (in_r25 _ (List.mem_of_getElem? (i := 2) rfl))), (hts (.selects RX2 yX2_otherEnd yX2_otherEnd) (in_r25 _ (List.mem_of_getElem? (i := 3) rfl)))⟩
theorem cw_X4_87 {R : Room} {s : State} {args : Array Value} {rm : Room} {mc ms : Nat} (hts : ∀ w ∈ big, w.before args s = true) (hrc : rm.cells = mc) (hrs : rm.slots = ms) (hR : rm.frames + 1 ≤ R.frames ∧ 8 + (2 + 11) + rm.locals ≤ R.locals) : CallW R s args RX4 RX2 87 yX2_lengthOf cX2_lengthOf 2 (some .int) wyX2_lengthOf rm mc ms 1 := ⟨callB_of 1 hts (big_code ok_X2_lengthOf) rfl hrc hrs (hts (.initialized RX2) (in_r1 _ (List.mem_of_getElem? (i := 14) rfl))) (hts (.methodLink RX4 87 yX2_lengthOf) (in_r28 _ (List.mem_of_getElem? (i := 6) rfl))) (by decide +kernel) hR, (hts (.instanceMethod yX2_lengthOf) (in_r17 _ (List.mem_of_getElem? (i := 18) rfl))), (hts (.selects RX2 yX2_lengthOf yX2_lengthOf) (in_r17 _ (List.mem_of_getElem? (i := 19) rfl)))⟩
theorem cw_X4_66 {R : Room} {s : State} {args : Array Value} {rm : Room} {mc ms : Nat} (hts : ∀ w ∈ big, w.before args s = true) (hrc : rm.cells = mc) (hrs : rm.slots = ms) (hR : rm.frames + 1 ≤ R.frames ∧ 8 + (8 + 11) + rm.locals ≤ R.locals) : CallW R s args RX4 RX8 66 yX8_choice cX8_choice 8 (some .int) wyX8_choice rm mc ms 2 := ⟨callB_of 2 hts (big_code ok_X8_choice) rfl hrc hrs (hts (.initialized RX8) (in_r1 _ (List.mem_of_getElem? (i := 22) rfl))) (hts (.methodLink RX4 66 yX8_choice) (in_r28 _ (List.mem_of_getElem? (i := 7) rfl))) (by decide +kernel) hR, (hts (.instanceMethod yX8_choice) (in_r18 _ (List.mem_of_getElem? (i := 19) rfl))), (hts (.selects RX8 yX8_choice yX8_choice) (in_r18 _ (List.mem_of_getElem? (i := 20) rfl)))⟩
theorem cw_L_85 {R : Room} {s : State} {args : Array Value} {rm : Room} {mc ms : Nat} (hts : ∀ w ∈ big, w.before args s = true) (hrc : rm.cells = mc) (hrs : rm.slots = ms) (hR : rm.frames + 1 ≤ R.frames ∧ 8 + (6 + 11) + rm.locals ≤ R.locals) : CallW R s args RL RX10 85 yX10_needed cX10_needed 6 (some .int) wyX10_needed rm mc ms 1 := ⟨callB_of 1 hts (big_code ok_X10_needed) rfl hrc hrs (hts (.initialized RX10) (in_r1 _ (List.mem_of_getElem? (i := 5) rfl))) (hts (.methodLink RL 85 yX10_needed) (in_r28 _ (List.mem_of_getElem? (i := 8) rfl))) (by decide +kernel) hR, (hts (.instanceMethod yX10_needed) (in_r28 _ (List.mem_of_getElem? (i := 9) rfl))), (hts (.selects RX10 yX10_needed yX10_needed) (in_r28 _ (List.mem_of_getElem? (i := 10) rfl)))⟩
theorem cw_X10_168 {R : Room} {s : State} {args : Array Value} {rm : Room} {mc ms : Nat} (hts : ∀ w ∈ big, w.before args s = true) (hrc : rm.cells = mc) (hrs : rm.slots = ms) (hR : rm.frames + 1 ≤ R.frames ∧ 8 + (8 + 11) + rm.locals ≤ R.locals) : CallW R s args RX10 RX10 168 yX10_isNeeded cX10_isNeeded 8 (some .boolean) wyX10_isNeeded rm mc ms 3 := ⟨callB_of 3 hts (big_code ok_X10_isNeeded) rfl hrc hrs (hts (.initialized RX10) (in_r1 _ (List.mem_of_getElem? (i := 5) rfl))) (hts (.methodLink RX10 168 yX10_isNeeded) (in_r28 _ (List.mem_of_getElem? (i := 12) rfl))) (by decide +kernel) hR, (hts (.instanceMethod yX10_isNeeded) (in_r28 _ (List.mem_of_getElem? (i := 13) rfl))), (hts (.selects RX10 yX10_isNeeded yX10_isNeeded) (in_r28 _ (List.mem_of_getElem? (i := 14) rfl)))⟩
theorem cw_X10_165 {R : Room} {s : State} {args : Array Value} {rm : Room} {mc ms : Nat} (hts : ∀ w ∈ big, w.before args s = true) (hrc : rm.cells = mc) (hrs : rm.slots = ms) (hR : rm.frames + 1 ≤ R.frames ∧ 8 + (3 + 11) + rm.locals ≤ R.locals) : CallW R s args RX10 RX10 165 yX10_isHarmless cX10_isHarmless 3 (some .boolean) wyX10_isHarmless rm mc ms 2 := ⟨callB_of 2 hts (big_code ok_X10_isHarmless) rfl hrc hrs (hts (.initialized RX10) (in_r1 _ (List.mem_of_getElem? (i := 5) rfl))) (hts (.methodLink RX10 165 yX10_isHarmless) (in_r28 _ (List.mem_of_getElem? (i := 16) rfl))) (by decide +kernel) hR, (hts (.instanceMethod yX10_isHarmless) (in_r28 _ (List.mem_of_getElem? (i := 17) rfl))), (hts (.selects RX10 yX10_isHarmless yX10_isHarmless) (in_r28 _ (List.mem_of_getElem? (i := 18) rfl)))⟩
theorem cw_L_86 {R : Room} {s : State} {args : Array Value} {rm : Room} {mc ms : Nat} (hts : ∀ w ∈ big, w.before args s = true) (hrc : rm.cells = mc) (hrs : rm.slots = ms) (hR : rm.frames + 1 ≤ R.frames ∧ 8 + (3 + 11) + rm.locals ≤ R.locals) : CallW R s args RL RX9 86 yX9_trail cX9_trail 3 (some .int) wyX9_trail rm mc ms 2 := ⟨callB_of 2 hts (big_code ok_X9_trail) rfl hrc hrs (hts (.initialized RX9) (in_r1 _ (List.mem_of_getElem? (i := 2) rfl))) (hts (.methodLink RL 86 yX9_trail) (in_r28 _ (List.mem_of_getElem? (i := 20) rfl))) (by decide +kernel) hR, (hts (.instanceMethod yX9_trail) (in_r28 _ (List.mem_of_getElem? (i := 21) rfl))), (hts (.selects RX9 yX9_trail yX9_trail) (in_r28 _ (List.mem_of_getElem? (i := 22) rfl)))⟩
theorem cw_X9_190 {R : Room} {s : State} {args : Array Value} {rm : Room} {mc ms : Nat} (hts : ∀ w ∈ big, w.before args s = true) (hrc : rm.cells = mc) (hrs : rm.slots = ms) (hR : rm.frames + 1 ≤ R.frames ∧ 8 + (1 + 11) + rm.locals ≤ R.locals) : CallW R s args RX9 RX7 190 yX7_trailCount cX7_trailCount 1 (some .int) wyX7_trailCount rm mc ms 0 := ⟨callB_of 0 hts (big_code ok_X7_trailCount) rfl hrc hrs (hts (.initialized RX7) (in_r2 _ (List.mem_of_getElem? (i := 10) rfl))) (hts (.methodLink RX9 190 yX7_trailCount) (in_r29 _ (List.mem_of_getElem? (i := 0) rfl))) (by decide +kernel) hR, (hts (.instanceMethod yX7_trailCount) (in_r29 _ (List.mem_of_getElem? (i := 1) rfl))), (hts (.selects RX7 yX7_trailCount yX7_trailCount) (in_r29 _ (List.mem_of_getElem? (i := 2) rfl)))⟩
theorem cw_X7_42 {R : Room} {s : State} {args : Array Value} {rm : Room} {mc ms : Nat} (hts : ∀ w ∈ big, w.before args s = true) (hrc : rm.cells = mc) (hrs : rm.slots = ms) (hR : rm.frames + 1 ≤ R.frames ∧ 8 + (1 + 11) + rm.locals ≤ R.locals) : CallW R s args RX7 RX5 42 yX5_size cX5_size 1 (some .int) wyX5_size rm mc ms 0 := ⟨callB_of 0 hts (big_code ok_X5_size) rfl hrc hrs (hts (.initialized RX5) (in_r3 _ (List.mem_of_getElem? (i := 1) rfl))) (hts (.methodLink RX7 42 yX5_size) (in_r29 _ (List.mem_of_getElem? (i := 4) rfl))) (by decide +kernel) hR, (hts (.instanceMethod yX5_size) (in_r9 _ (List.mem_of_getElem? (i := 19) rfl))), (hts (.selects RX5 yX5_size yX5_size) (in_r9 _ (List.mem_of_getElem? (i := 20) rfl)))⟩
theorem cw_X9_193 {R : Room} {s : State} {args : Array Value} {rm : Room} {mc ms : Nat} (hts : ∀ w ∈ big, w.before args s = true) (hrc : rm.cells = mc) (hrs : rm.slots = ms) (hR : rm.frames + 1 ≤ R.frames ∧ 8 + (4 + 11) + rm.locals ≤ R.locals) : CallW R s args RX9 RX7 193 yX7_begin cX7_begin 4 (some .int) wyX7_begin rm mc ms 2 := ⟨callB_of 2 hts (big_code ok_X7_begin) rfl hrc hrs (hts (.initialized RX7) (in_r2 _ (List.mem_of_getElem? (i := 10) rfl))) (hts (.methodLink RX9 193 yX7_begin) (in_r29 _ (List.mem_of_getElem? (i := 5) rfl))) (by decide +kernel) hR, (hts (.instanceMethod yX7_begin) (in_r29 _ (List.mem_of_getElem? (i := 6) rfl))), (hts (.selects RX7 yX7_begin yX7_begin) (in_r29 _ (List.mem_of_getElem? (i := 7) rfl)))⟩
theorem cw_X7_50 {R : Room} {s : State} {args : Array Value} {rm : Room} {mc ms : Nat} (hts : ∀ w ∈ big, w.before args s = true) (hrc : rm.cells = mc) (hrs : rm.slots = ms) (hR : rm.frames + 1 ≤ R.frames ∧ 8 + (1 + 11) + rm.locals ≤ R.locals) : CallW R s args RX7 RX7 50 yX7_trailCount cX7_trailCount 1 (some .int) wyX7_trailCount rm mc ms 0 := ⟨callB_of 0 hts (big_code ok_X7_trailCount) rfl hrc hrs (hts (.initialized RX7) (in_r2 _ (List.mem_of_getElem? (i := 10) rfl))) (hts (.methodLink RX7 50 yX7_trailCount) (in_r29 _ (List.mem_of_getElem? (i := 9) rfl))) (by decide +kernel) hR, (hts (.instanceMethod yX7_trailCount) (in_r29 _ (List.mem_of_getElem? (i := 1) rfl))), (hts (.selects RX7 yX7_trailCount yX7_trailCount) (in_r29 _ (List.mem_of_getElem? (i := 2) rfl)))⟩
theorem cw_X7_53 {R : Room} {s : State} {args : Array Value} {rm : Room} {mc ms : Nat} (hts : ∀ w ∈ big, w.before args s = true) (hrc : rm.cells = mc) (hrs : rm.slots = ms) (hR : rm.frames + 1 ≤ R.frames ∧ 8 + (2 + 11) + rm.locals ≤ R.locals) : CallW R s args RX7 RX5 53 yX5_push cX5_push 2 (some .int) wyX5_push rm mc ms 1 := ⟨callB_of 1 hts (big_code ok_X5_push) rfl hrc hrs (hts (.initialized RX5) (in_r3 _ (List.mem_of_getElem? (i := 1) rfl))) (hts (.methodLink RX7 53 yX5_push) (in_r29 _ (List.mem_of_getElem? (i := 10) rfl))) (by decide +kernel) hR, (hts (.instanceMethod yX5_push) (in_r10 _ (List.mem_of_getElem? (i := 4) rfl))), (hts (.selects RX5 yX5_push yX5_push) (in_r10 _ (List.mem_of_getElem? (i := 5) rfl)))⟩
theorem cw_X7_56 {R : Room} {s : State} {args : Array Value} {rm : Room} {mc ms : Nat} (hts : ∀ w ∈ big, w.before args s = true) (hrc : rm.cells = mc) (hrs : rm.slots = ms) (hR : rm.frames + 1 ≤ R.frames ∧ 8 + (4 + 11) + rm.locals ≤ R.locals) : CallW R s args RX7 RX7 56 yX7_goOnTo cX7_goOnTo 4 (some .int) wyX7_goOnTo rm mc ms 2 := ⟨callB_of 2 hts (big_code ok_X7_goOnTo) rfl hrc hrs (hts (.initialized RX7) (in_r2 _ (List.mem_of_getElem? (i := 10) rfl))) (hts (.methodLink RX7 56 yX7_goOnTo) (in_r29 _ (List.mem_of_getElem? (i := 11) rfl))) (by decide +kernel) hR, (hts (.instanceMethod yX7_goOnTo) (in_r29 _ (List.mem_of_getElem? (i := 12) rfl))), (hts (.selects RX7 yX7_goOnTo yX7_goOnTo) (in_r29 _ (List.mem_of_getElem? (i := 13) rfl)))⟩
theorem cw_X7_60 {R : Room} {s : State} {args : Array Value} {rm : Room} {mc ms : Nat} (hts : ∀ w ∈ big, w.before args s = true) (hrc : rm.cells = mc) (hrs : rm.slots = ms) (hR : rm.frames + 1 ≤ R.frames ∧ 8 + (2 + 11) + rm.locals ≤ R.locals) : CallW R s args RX7 RX7 60 yX7_sizeOf cX7_sizeOf 2 (some .int) wyX7_sizeOf rm mc ms 1 := ⟨callB_of 1 hts (big_code ok_X7_sizeOf) rfl hrc hrs (hts (.initialized RX7) (in_r2 _ (List.mem_of_getElem? (i := 10) rfl))) (hts (.methodLink RX7 60 yX7_sizeOf) (in_r29 _ (List.mem_of_getElem? (i := 15) rfl))) (by decide +kernel) hR, (hts (.instanceMethod yX7_sizeOf) (in_r29 _ (List.mem_of_getElem? (i := 16) rfl))), (hts (.selects RX7 yX7_sizeOf yX7_sizeOf) (in_r29 _ (List.mem_of_getElem? (i := 17) rfl)))⟩
theorem cw_X7_46 {R : Room} {s : State} {args : Array Value} {rm : Room} {mc ms : Nat} (hts : ∀ w ∈ big, w.before args s = true) (hrc : rm.cells = mc) (hrs : rm.slots = ms) (hR : rm.frames + 1 ≤ R.frames ∧ 8 + (2 + 11) + rm.locals ≤ R.locals) : CallW R s args RX7 RX5 46 yX5_get cX5_get 2 (some .int) wyX5_get rm mc ms 1 := ⟨callB_of 1 hts (big_code ok_X5_get) rfl hrc hrs (hts (.initialized RX5) (in_r3 _ (List.mem_of_getElem? (i := 1) rfl))) (hts (.methodLink RX7 46 yX5_get) (in_r29 _ (List.mem_of_getElem? (i := 19) rfl))) (by decide +kernel) hR, (hts (.instanceMethod yX5_get) (in_r9 _ (List.mem_of_getElem? (i := 4) rfl))), (hts (.selects RX5 yX5_get yX5_get) (in_r9 _ (List.mem_of_getElem? (i := 5) rfl)))⟩
theorem cw_X7_74 {R : Room} {s : State} {args : Array Value} {rm : Room} {mc ms : Nat} (hts : ∀ w ∈ big, w.before args s = true) (hrc : rm.cells = mc) (hrs : rm.slots = ms) (hR : rm.frames + 1 ≤ R.frames ∧ 8 + (3 + 11) + rm.locals ≤ R.locals) : CallW R s args RX7 RX5 74 yX5_put cX5_put 3 none wyX5_put rm mc ms 2 := ⟨callB_of 2 hts (big_code ok_X5_put) rfl hrc hrs (hts (.initialized RX5) (in_r3 _ (List.mem_of_getElem? (i := 1) rfl))) (hts (.methodLink RX7 74 yX5_put) (in_r29 _ (List.mem_of_getElem? (i := 20) rfl))) (by decide +kernel) hR, (hts (.instanceMethod yX5_put) (in_r10 _ (List.mem_of_getElem? (i := 10) rfl))), (hts (.selects RX5 yX5_put yX5_put) (in_r10 _ (List.mem_of_getElem? (i := 11) rfl)))⟩
theorem cw_L_90 {R : Room} {s : State} {args : Array Value} {rm : Room} {mc ms : Nat} (hts : ∀ w ∈ big, w.before args s = true) (hrc : rm.cells = mc) (hrs : rm.slots = ms) (hR : rm.frames + 1 ≤ R.frames ∧ 8 + (3 + 11) + rm.locals ≤ R.locals) : CallW R s args RL RX10 90 yX10_trail cX10_trail 3 (some .int) wyX10_trail rm mc ms 2 := ⟨callB_of 2 hts (big_code ok_X10_trail) rfl hrc hrs (hts (.initialized RX10) (in_r1 _ (List.mem_of_getElem? (i := 5) rfl))) (hts (.methodLink RL 90 yX10_trail) (in_r29 _ (List.mem_of_getElem? (i := 21) rfl))) (by decide +kernel) hR, (hts (.instanceMethod yX10_trail) (in_r29 _ (List.mem_of_getElem? (i := 22) rfl))), (hts (.selects RX10 yX10_trail yX10_trail) (in_r29 _ (List.mem_of_getElem? (i := 23) rfl)))⟩
theorem cw_L_91 {R : Room} {s : State} {args : Array Value} {rm : Room} {mc ms : Nat} (hts : ∀ w ∈ big, w.before args s = true) (hrc : rm.cells = mc) (hrs : rm.slots = ms) (hR : rm.frames + 1 ≤ R.frames ∧ 8 + (3 + 11) + rm.locals ≤ R.locals) : CallW R s args RL RX9 91 yX9_add cX9_add 3 (some .int) wyX9_add rm mc ms 2 := ⟨callB_of 2 hts (big_code ok_X9_add) rfl hrc hrs (hts (.initialized RX9) (in_r1 _ (List.mem_of_getElem? (i := 2) rfl))) (hts (.methodLink RL 91 yX9_add) (in_r30 _ (List.mem_of_getElem? (i := 2) rfl))) (by decide +kernel) hR, (hts (.instanceMethod yX9_add) (in_r30 _ (List.mem_of_getElem? (i := 3) rfl))), (hts (.selects RX9 yX9_add yX9_add) (in_r30 _ (List.mem_of_getElem? (i := 4) rfl)))⟩
theorem cw_X9_197 {R : Room} {s : State} {args : Array Value} {rm : Room} {mc ms : Nat} (hts : ∀ w ∈ big, w.before args s = true) (hrc : rm.cells = mc) (hrs : rm.slots = ms) (hR : rm.frames + 1 ≤ R.frames ∧ 8 + (4 + 11) + rm.locals ≤ R.locals) : CallW R s args RX9 RX7 197 yX7_mayGoOnTo cX7_mayGoOnTo 4 (some .boolean) wyX7_mayGoOnTo rm mc ms 2 := ⟨callB_of 2 hts (big_code ok_X7_mayGoOnTo) rfl hrc hrs (hts (.initialized RX7) (in_r2 _ (List.mem_of_getElem? (i := 10) rfl))) (hts (.methodLink RX9 197 yX7_mayGoOnTo) (in_r30 _ (List.mem_of_getElem? (i := 6) rfl))) (by decide +kernel) hR, (hts (.instanceMethod yX7_mayGoOnTo) (in_r30 _ (List.mem_of_getElem? (i := 7) rfl))), (hts (.selects RX7 yX7_mayGoOnTo yX7_mayGoOnTo) (in_r30 _ (List.mem_of_getElem? (i := 8) rfl)))⟩
theorem cw_X7_63 {R : Room} {s : State} {args : Array Value} {rm : Room} {mc ms : Nat} (hts : ∀ w ∈ big, w.before args s = true) (hrc : rm.cells = mc) (hrs : rm.slots = ms) (hR : rm.frames + 1 ≤ R.frames ∧ 8 + (3 + 11) + rm.locals ≤ R.locals) : CallW R s args RX7 RX7 63 yX7_placeAt cX7_placeAt 3 (some .int) wyX7_placeAt rm mc ms 2 := ⟨callB_of 2 hts (big_code ok_X7_placeAt) rfl hrc hrs (hts (.initialized RX7) (in_r2 _ (List.mem_of_getElem? (i := 10) rfl))) (hts (.methodLink RX7 63 yX7_placeAt) (in_r30 _ (List.mem_of_getElem? (i := 10) rfl))) (by decide +kernel) hR, (hts (.instanceMethod yX7_placeAt) (in_r30 _ (List.mem_of_getElem? (i := 11) rfl))), (hts (.selects RX7 yX7_placeAt yX7_placeAt) (in_r30 _ (List.mem_of_getElem? (i := 12) rfl)))⟩
theorem cw_X7_66 {R : Room} {s : State} {args : Array Value} {rm : Room} {mc ms : Nat} (hts : ∀ w ∈ big, w.before args s = true) (hrc : rm.cells = mc) (hrs : rm.slots = ms) (hR : rm.frames + 1 ≤ R.frames ∧ 8 + (4 + 11) + rm.locals ≤ R.locals) : CallW R s args RX7 RX7 66 yX7_indexOf cX7_indexOf 4 (some .int) wyX7_indexOf rm mc ms 2 := ⟨callB_of 2 hts (big_code ok_X7_indexOf) rfl hrc hrs (hts (.initialized RX7) (in_r2 _ (List.mem_of_getElem? (i := 10) rfl))) (hts (.methodLink RX7 66 yX7_indexOf) (in_r30 _ (List.mem_of_getElem? (i := 14) rfl))) (by decide +kernel) hR, (hts (.instanceMethod yX7_indexOf) (in_r30 _ (List.mem_of_getElem? (i := 15) rfl))), (hts (.selects RX7 yX7_indexOf yX7_indexOf) (in_r30 _ (List.mem_of_getElem? (i := 16) rfl)))⟩
theorem cw_X7_69 {R : Room} {s : State} {args : Array Value} {rm : Room} {mc ms : Nat} (hts : ∀ w ∈ big, w.before args s = true) (hrc : rm.cells = mc) (hrs : rm.slots = ms) (hR : rm.frames + 1 ≤ R.frames ∧ 8 + (4 + 11) + rm.locals ≤ R.locals) : CallW R s args RX7 RX2 69 yX2_joining cX2_joining 4 (some .int) wyX2_joining rm mc ms 2 := ⟨callB_of 2 hts (big_code ok_X2_joining) rfl hrc hrs (hts (.initialized RX2) (in_r1 _ (List.mem_of_getElem? (i := 14) rfl))) (hts (.methodLink RX7 69 yX2_joining) (in_r30 _ (List.mem_of_getElem? (i := 18) rfl))) (by decide +kernel) hR, (hts (.instanceMethod yX2_joining) (in_r8 _ (List.mem_of_getElem? (i := 20) rfl))), (hts (.selects RX2 yX2_joining yX2_joining) (in_r8 _ (List.mem_of_getElem? (i := 21) rfl)))⟩
theorem cw_X9_199 {R : Room} {s : State} {args : Array Value} {rm : Room} {mc ms : Nat} (hts : ∀ w ∈ big, w.before args s = true) (hrc : rm.cells = mc) (hrs : rm.slots = ms) (hR : rm.frames + 1 ≤ R.frames ∧ 8 + (2 + 11) + rm.locals ≤ R.locals) : CallW R s args RX9 RX7 199 yX7_sizeOf cX7_sizeOf 2 (some .int) wyX7_sizeOf rm mc ms 1 := ⟨callB_of 1 hts (big_code ok_X7_sizeOf) rfl hrc hrs (hts (.initialized RX7) (in_r2 _ (List.mem_of_getElem? (i := 10) rfl))) (hts (.methodLink RX9 199 yX7_sizeOf) (in_r30 _ (List.mem_of_getElem? (i := 19) rfl))) (by decide +kernel) hR, (hts (.instanceMethod yX7_sizeOf) (in_r29 _ (List.mem_of_getElem? (i := 16) rfl))), (hts (.selects RX7 yX7_sizeOf yX7_sizeOf) (in_r29 _ (List.mem_of_getElem? (i := 17) rfl)))⟩
theorem cw_X9_202 {R : Room} {s : State} {args : Array Value} {rm : Room} {mc ms : Nat} (hts : ∀ w ∈ big, w.before args s = true) (hrc : rm.cells = mc) (hrs : rm.slots = ms) (hR : rm.frames + 1 ≤ R.frames ∧ 8 + (4 + 11) + rm.locals ≤ R.locals) : CallW R s args RX9 RX7 202 yX7_goOnTo cX7_goOnTo 4 (some .int) wyX7_goOnTo rm mc ms 2 := ⟨callB_of 2 hts (big_code ok_X7_goOnTo) rfl hrc hrs (hts (.initialized RX7) (in_r2 _ (List.mem_of_getElem? (i := 10) rfl))) (hts (.methodLink RX9 202 yX7_goOnTo) (in_r30 _ (List.mem_of_getElem? (i := 20) rfl))) (by decide +kernel) hR, (hts (.instanceMethod yX7_goOnTo) (in_r29 _ (List.mem_of_getElem? (i := 12) rfl))), (hts (.selects RX7 yX7_goOnTo yX7_goOnTo) (in_r29 _ (List.mem_of_getElem? (i := 13) rfl)))⟩
theorem cw_L_94 {R : Room} {s : State} {args : Array Value} {rm : Room} {mc ms : Nat} (hts : ∀ w ∈ big, w.before args s = true) (hrc : rm.cells = mc) (hrs : rm.slots = ms) (hR : rm.frames + 1 ≤ R.frames ∧ 8 + (5 + 11) + rm.locals ≤ R.locals) : CallW R s args RL RX10 94 yX10_add cX10_add 5 (some .int) wyX10_add rm mc ms 2 := ⟨callB_of 2 hts (big_code ok_X10_add) rfl hrc hrs (hts (.initialized RX10) (in_r1 _ (List.mem_of_getElem? (i := 5) rfl))) (hts (.methodLink RL 94 yX10_add) (in_r30 _ (List.mem_of_getElem? (i := 21) rfl))) (by decide +kernel) hR, (hts (.instanceMethod yX10_add) (in_r30 _ (List.mem_of_getElem? (i := 22) rfl))), (hts (.selects RX10 yX10_add yX10_add) (in_r30 _ (List.mem_of_getElem? (i := 23) rfl)))⟩
theorem cw_L_95 {R : Room} {s : State} {args : Array Value} {rm : Room} {mc ms : Nat} (hts : ∀ w ∈ big, w.before args s = true) (hrc : rm.cells = mc) (hrs : rm.slots = ms) (hR : rm.frames + 1 ≤ R.frames ∧ 8 + (2 + 11) + rm.locals ≤ R.locals) : CallW R s args RL RX9 95 yX9_breaks cX9_breaks 2 (some .int) wyX9_breaks rm mc ms 1 := ⟨callB_of 1 hts (big_code ok_X9_breaks) rfl hrc hrs (hts (.initialized RX9) (in_r1 _ (List.mem_of_getElem? (i := 2) rfl))) (hts (.methodLink RL 95 yX9_breaks) (in_r31 _ (List.mem_of_getElem? (i := 1) rfl))) (by decide +kernel) hR, (hts (.instanceMethod yX9_breaks) (in_r31 _ (List.mem_of_getElem? (i := 2) rfl))), (hts (.selects RX9 yX9_breaks yX9_breaks) (in_r31 _ (List.mem_of_getElem? (i := 3) rfl)))⟩
theorem cw_X9_204 {R : Room} {s : State} {args : Array Value} {rm : Room} {mc ms : Nat} (hts : ∀ w ∈ big, w.before args s = true) (hrc : rm.cells = mc) (hrs : rm.slots = ms) (hR : rm.frames + 1 ≤ R.frames ∧ 8 + (4 + 11) + rm.locals ≤ R.locals) : CallW R s args RX9 RX7 204 yX7_faultsOf cX7_faultsOf 4 (some .int) wyX7_faultsOf rm mc ms 1 := ⟨callB_of 1 hts (big_code ok_X7_faultsOf) rfl hrc hrs (hts (.initialized RX7) (in_r2 _ (List.mem_of_getElem? (i := 10) rfl))) (hts (.methodLink RX9 204 yX7_faultsOf) (in_r31 _ (List.mem_of_getElem? (i := 5) rfl))) (by decide +kernel) hR, (hts (.instanceMethod yX7_faultsOf) (in_r31 _ (List.mem_of_getElem? (i := 6) rfl))), (hts (.selects RX7 yX7_faultsOf yX7_faultsOf) (in_r31 _ (List.mem_of_getElem? (i := 7) rfl)))⟩
theorem cw_X7_78 {R : Room} {s : State} {args : Array Value} {rm : Room} {mc ms : Nat} (hts : ∀ w ∈ big, w.before args s = true) (hrc : rm.cells = mc) (hrs : rm.slots = ms) (hR : rm.frames + 1 ≤ R.frames ∧ 8 + (2 + 11) + rm.locals ≤ R.locals) : CallW R s args RX7 RX7 78 yX7_isFalse cX7_isFalse 2 (some .boolean) wyX7_isFalse rm mc ms 1 := ⟨callB_of 1 hts (big_code ok_X7_isFalse) rfl hrc hrs (hts (.initialized RX7) (in_r2 _ (List.mem_of_getElem? (i := 10) rfl))) (hts (.methodLink RX7 78 yX7_isFalse) (in_r31 _ (List.mem_of_getElem? (i := 9) rfl))) (by decide +kernel) hR, (hts (.instanceMethod yX7_isFalse) (in_r31 _ (List.mem_of_getElem? (i := 10) rfl))), (hts (.selects RX7 yX7_isFalse yX7_isFalse) (in_r31 _ (List.mem_of_getElem? (i := 11) rfl)))⟩
theorem cw_X7_82 {R : Room} {s : State} {args : Array Value} {rm : Room} {mc ms : Nat} (hts : ∀ w ∈ big, w.before args s = true) (hrc : rm.cells = mc) (hrs : rm.slots = ms) (hR : rm.frames + 1 ≤ R.frames ∧ 8 + (2 + 11) + rm.locals ≤ R.locals) : CallW R s args RX7 RX4 82 yX4_passes cX4_passes 2 (some .boolean) wyX4_passes rm mc ms 1 := ⟨callB_of 1 hts (big_code ok_X4_passes) rfl hrc hrs (hts (.initialized RX4) (in_r2 _ (List.mem_of_getElem? (i := 6) rfl))) (hts (.methodLink RX7 82 yX4_passes) (in_r31 _ (List.mem_of_getElem? (i := 13) rfl))) (by decide +kernel) hR, (hts (.instanceMethod yX4_passes) (in_r26 _ (List.mem_of_getElem? (i := 1) rfl))), (hts (.selects RX4 yX4_passes yX4_passes) (in_r26 _ (List.mem_of_getElem? (i := 2) rfl)))⟩
theorem cw_X7_87 {R : Room} {s : State} {args : Array Value} {rm : Room} {mc ms : Nat} (hts : ∀ w ∈ big, w.before args s = true) (hrc : rm.cells = mc) (hrs : rm.slots = ms) (hR : rm.frames + 1 ≤ R.frames ∧ 8 + (3 + 11) + rm.locals ≤ R.locals) : CallW R s args RX7 RX7 87 yX7_comesBackToRoute cX7_comesBackToRoute 3 (some .boolean) wyX7_comesBackToRoute rm mc ms 1 := ⟨callB_of 1 hts (big_code ok_X7_comesBackToRoute) rfl hrc hrs (hts (.initialized RX7) (in_r2 _ (List.mem_of_getElem? (i := 10) rfl))) (hts (.methodLink RX7 87 yX7_comesBackToRoute) (in_r31 _ (List.mem_of_getElem? (i := 14) rfl))) (by decide +kernel) hR, (hts (.instanceMethod yX7_comesBackToRoute) (in_r31 _ (List.mem_of_getElem? (i := 15) rfl))), (hts (.selects RX7 yX7_comesBackToRoute yX7_comesBackToRoute) (in_r31 _ (List.mem_of_getElem? (i := 16) rfl)))⟩
theorem cw_X7_90 {R : Room} {s : State} {args : Array Value} {rm : Room} {mc ms : Nat} (hts : ∀ w ∈ big, w.before args s = true) (hrc : rm.cells = mc) (hrs : rm.slots = ms) (hR : rm.frames + 1 ≤ R.frames ∧ 8 + (4 + 11) + rm.locals ≤ R.locals) : CallW R s args RX7 RX7 90 yX7_wholeLength cX7_wholeLength 4 (some .int) wyX7_wholeLength rm mc ms 1 := ⟨callB_of 1 hts (big_code ok_X7_wholeLength) rfl hrc hrs (hts (.initialized RX7) (in_r2 _ (List.mem_of_getElem? (i := 10) rfl))) (hts (.methodLink RX7 90 yX7_wholeLength) (in_r31 _ (List.mem_of_getElem? (i := 18) rfl))) (by decide +kernel) hR, (hts (.instanceMethod yX7_wholeLength) (in_r31 _ (List.mem_of_getElem? (i := 19) rfl))), (hts (.selects RX7 yX7_wholeLength yX7_wholeLength) (in_r31 _ (List.mem_of_getElem? (i := 20) rfl)))⟩
theorem cw_X7_97 {R : Room} {s : State} {args : Array Value} {rm : Room} {mc ms : Nat} (hts : ∀ w ∈ big, w.before args s = true) (hrc : rm.cells = mc) (hrs : rm.slots = ms) (hR : rm.frames + 1 ≤ R.frames ∧ 8 + (2 + 11) + rm.locals ≤ R.locals) : CallW R s args RX7 RX2 97 yX2_lengthOf cX2_lengthOf 2 (some .int) wyX2_lengthOf rm mc ms 1 := ⟨callB_of 1 hts (big_code ok_X2_lengthOf) rfl hrc hrs (hts (.initialized RX2) (in_r1 _ (List.mem_of_getElem? (i := 14) rfl))) (hts (.methodLink RX7 97 yX2_lengthOf) (in_r31 _ (List.mem_of_getElem? (i := 22) rfl))) (by decide +kernel) hR, (hts (.instanceMethod yX2_lengthOf) (in_r17 _ (List.mem_of_getElem? (i := 18) rfl))), (hts (.selects RX2 yX2_lengthOf yX2_lengthOf) (in_r17 _ (List.mem_of_getElem? (i := 19) rfl)))⟩
theorem cw_X7_93 {R : Room} {s : State} {args : Array Value} {rm : Room} {mc ms : Nat} (hts : ∀ w ∈ big, w.before args s = true) (hrc : rm.cells = mc) (hrs : rm.slots = ms) (hR : rm.frames + 1 ≤ R.frames ∧ 8 + (5 + 11) + rm.locals ≤ R.locals) : CallW R s args RX7 RX7 93 yX7_crosses cX7_crosses 5 (some .boolean) wyX7_crosses rm mc ms 2 := ⟨callB_of 2 hts (big_code ok_X7_crosses) rfl hrc hrs (hts (.initialized RX7) (in_r2 _ (List.mem_of_getElem? (i := 10) rfl))) (hts (.methodLink RX7 93 yX7_crosses) (in_r31 _ (List.mem_of_getElem? (i := 23) rfl))) (by decide +kernel) hR, (hts (.instanceMethod yX7_crosses) (in_r32 _ (List.mem_of_getElem? (i := 0) rfl))), (hts (.selects RX7 yX7_crosses yX7_crosses) (in_r32 _ (List.mem_of_getElem? (i := 1) rfl)))⟩
theorem cw_L_98 {R : Room} {s : State} {args : Array Value} {rm : Room} {mc ms : Nat} (hts : ∀ w ∈ big, w.before args s = true) (hrc : rm.cells = mc) (hrs : rm.slots = ms) (hR : rm.frames + 1 ≤ R.frames ∧ 8 + (5 + 11) + rm.locals ≤ R.locals) : CallW R s args RL RX10 98 yX10_breaks cX10_breaks 5 (some .int) wyX10_breaks rm mc ms 1 := ⟨callB_of 1 hts (big_code ok_X10_breaks) rfl hrc hrs (hts (.initialized RX10) (in_r1 _ (List.mem_of_getElem? (i := 5) rfl))) (hts (.methodLink RL 98 yX10_breaks) (in_r32 _ (List.mem_of_getElem? (i := 3) rfl))) (by decide +kernel) hR, (hts (.instanceMethod yX10_breaks) (in_r32 _ (List.mem_of_getElem? (i := 4) rfl))), (hts (.selects RX10 yX10_breaks yX10_breaks) (in_r32 _ (List.mem_of_getElem? (i := 5) rfl)))⟩
theorem cw_X10_174 {R : Room} {s : State} {args : Array Value} {rm : Room} {mc ms : Nat} (hts : ∀ w ∈ big, w.before args s = true) (hrc : rm.cells = mc) (hrs : rm.slots = ms) (hR : rm.frames + 1 ≤ R.frames ∧ 8 + (4 + 11) + rm.locals ≤ R.locals) : CallW R s args RX10 RX10 174 yX10_isOnRoute cX10_isOnRoute 4 (some .boolean) wyX10_isOnRoute rm mc ms 1 := ⟨callB_of 1 hts (big_code ok_X10_isOnRoute) rfl hrc hrs (hts (.initialized RX10) (in_r1 _ (List.mem_of_getElem? (i := 5) rfl))) (hts (.methodLink RX10 174 yX10_isOnRoute) (in_r32 _ (List.mem_of_getElem? (i := 7) rfl))) (by decide +kernel) hR, (hts (.instanceMethod yX10_isOnRoute) (in_r32 _ (List.mem_of_getElem? (i := 8) rfl))), (hts (.selects RX10 yX10_isOnRoute yX10_isOnRoute) (in_r32 _ (List.mem_of_getElem? (i := 9) rfl)))⟩
theorem cw_X10_177 {R : Room} {s : State} {args : Array Value} {rm : Room} {mc ms : Nat} (hts : ∀ w ∈ big, w.before args s = true) (hrc : rm.cells = mc) (hrs : rm.slots = ms) (hR : rm.frames + 1 ≤ R.frames ∧ 8 + (6 + 11) + rm.locals ≤ R.locals) : CallW R s args RX10 RX10 177 yX10_doCross cX10_doCross 6 (some .boolean) wyX10_doCross rm mc ms 2 := ⟨callB_of 2 hts (big_code ok_X10_doCross) rfl hrc hrs (hts (.initialized RX10) (in_r1 _ (List.mem_of_getElem? (i := 5) rfl))) (hts (.methodLink RX10 177 yX10_doCross) (in_r32 _ (List.mem_of_getElem? (i := 11) rfl))) (by decide +kernel) hR, (hts (.instanceMethod yX10_doCross) (in_r32 _ (List.mem_of_getElem? (i := 12) rfl))), (hts (.selects RX10 yX10_doCross yX10_doCross) (in_r32 _ (List.mem_of_getElem? (i := 13) rfl)))⟩
theorem cw_L_99 {R : Room} {s : State} {args : Array Value} {rm : Room} {mc ms : Nat} (hts : ∀ w ∈ big, w.before args s = true) (hrc : rm.cells = mc) (hrs : rm.slots = ms) (hR : rm.frames + 1 ≤ R.frames ∧ 8 + (2 + 11) + rm.locals ≤ R.locals) : CallW R s args RL RX9 99 yX9_branch cX9_branch 2 (some .int) wyX9_branch rm mc ms 1 := ⟨callB_of 1 hts (big_code ok_X9_branch) rfl hrc hrs (hts (.initialized RX9) (in_r1 _ (List.mem_of_getElem? (i := 2) rfl))) (hts (.methodLink RL 99 yX9_branch) (in_r32 _ (List.mem_of_getElem? (i := 15) rfl))) (by decide +kernel) hR, (hts (.instanceMethod yX9_branch) (in_r32 _ (List.mem_of_getElem? (i := 16) rfl))), (hts (.selects RX9 yX9_branch yX9_branch) (in_r32 _ (List.mem_of_getElem? (i := 17) rfl)))⟩
theorem cw_X9_207 {R : Room} {s : State} {args : Array Value} {rm : Room} {mc ms : Nat} (hts : ∀ w ∈ big, w.before args s = true) (hrc : rm.cells = mc) (hrs : rm.slots = ms) (hR : rm.frames + 1 ≤ R.frames ∧ 8 + (1 + 11) + rm.locals ≤ R.locals) : CallW R s args RX9 RX1 207 yX1_branchCount cX1_branchCount 1 (some .int) wyX1_branchCount rm mc ms 0 := ⟨callB_of 0 hts (big_code ok_X1_branchCount) rfl hrc hrs (hts (.initialized RX1) (in_r2 _ (List.mem_of_getElem? (i := 14) rfl))) (hts (.methodLink RX9 207 yX1_branchCount) (in_r32 _ (List.mem_of_getElem? (i := 19) rfl))) (by decide +kernel) hR, (hts (.instanceMethod yX1_branchCount) (in_r32 _ (List.mem_of_getElem? (i := 20) rfl))), (hts (.selects RX1 yX1_branchCount yX1_branchCount) (in_r32 _ (List.mem_of_getElem? (i := 21) rfl)))⟩
theorem cw_X1_28 {R : Room} {s : State} {args : Array Value} {rm : Room} {mc ms : Nat} (hts : ∀ w ∈ big, w.before args s = true) (hrc : rm.cells = mc) (hrs : rm.slots = ms) (hR : rm.frames + 1 ≤ R.frames ∧ 8 + (1 + 11) + rm.locals ≤ R.locals) : CallW R s args RX1 RX5 28 yX5_size cX5_size 1 (some .int) wyX5_size rm mc ms 0 := ⟨callB_of 0 hts (big_code ok_X5_size) rfl hrc hrs (hts (.initialized RX5) (in_r3 _ (List.mem_of_getElem? (i := 1) rfl))) (hts (.methodLink RX1 28 yX5_size) (in_r32 _ (List.mem_of_getElem? (i := 23) rfl))) (by decide +kernel) hR, (hts (.instanceMethod yX5_size) (in_r9 _ (List.mem_of_getElem? (i := 19) rfl))), (hts (.selects RX5 yX5_size yX5_size) (in_r9 _ (List.mem_of_getElem? (i := 20) rfl)))⟩
theorem cw_X9_210 {R : Room} {s : State} {args : Array Value} {rm : Room} {mc ms : Nat} (hts : ∀ w ∈ big, w.before args s = true) (hrc : rm.cells = mc) (hrs : rm.slots = ms) (hR : rm.frames + 1 ≤ R.frames ∧ 8 + (2 + 11) + rm.locals ≤ R.locals) : CallW R s args RX9 RX1 210 yX1_grow cX1_grow 2 (some .int) wyX1_grow rm mc ms 1 := ⟨callB_of 1 hts (big_code ok_X1_grow) rfl hrc hrs (hts (.initialized RX1) (in_r2 _ (List.mem_of_getElem? (i := 14) rfl))) (hts (.methodLink RX9 210 yX1_grow) (in_r33 _ (List.mem_of_getElem? (i := 0) rfl))) (by decide +kernel) hR, (hts (.instanceMethod yX1_grow) (in_r33 _ (List.mem_of_getElem? (i := 1) rfl))), (hts (.selects RX1 yX1_grow yX1_grow) (in_r33 _ (List.mem_of_getElem? (i := 2) rfl)))⟩
theorem cw_X1_32 {R : Room} {s : State} {args : Array Value} {rm : Room} {mc ms : Nat} (hts : ∀ w ∈ big, w.before args s = true) (hrc : rm.cells = mc) (hrs : rm.slots = ms) (hR : rm.frames + 1 ≤ R.frames ∧ 8 + (2 + 11) + rm.locals ≤ R.locals) : CallW R s args RX1 RX5 32 yX5_push cX5_push 2 (some .int) wyX5_push rm mc ms 1 := ⟨callB_of 1 hts (big_code ok_X5_push) rfl hrc hrs (hts (.initialized RX5) (in_r3 _ (List.mem_of_getElem? (i := 1) rfl))) (hts (.methodLink RX1 32 yX5_push) (in_r33 _ (List.mem_of_getElem? (i := 4) rfl))) (by decide +kernel) hR, (hts (.instanceMethod yX5_push) (in_r10 _ (List.mem_of_getElem? (i := 4) rfl))), (hts (.selects RX5 yX5_push yX5_push) (in_r10 _ (List.mem_of_getElem? (i := 5) rfl)))⟩
theorem cw_L_102 {R : Room} {s : State} {args : Array Value} {rm : Room} {mc ms : Nat} (hts : ∀ w ∈ big, w.before args s = true) (hrc : rm.cells = mc) (hrs : rm.slots = ms) (hR : rm.frames + 1 ≤ R.frames ∧ 8 + (2 + 11) + rm.locals ≤ R.locals) : CallW R s args RL RX10 102 yX10_branch cX10_branch 2 (some .int) wyX10_branch rm mc ms 1 := ⟨callB_of 1 hts (big_code ok_X10_branch) rfl hrc hrs (hts (.initialized RX10) (in_r1 _ (List.mem_of_getElem? (i := 5) rfl))) (hts (.methodLink RL 102 yX10_branch) (in_r33 _ (List.mem_of_getElem? (i := 5) rfl))) (by decide +kernel) hR, (hts (.instanceMethod yX10_branch) (in_r33 _ (List.mem_of_getElem? (i := 6) rfl))), (hts (.selects RX10 yX10_branch yX10_branch) (in_r33 _ (List.mem_of_getElem? (i := 7) rfl)))⟩
theorem cw_L_103 {R : Room} {s : State} {args : Array Value} {rm : Room} {mc ms : Nat} (hts : ∀ w ∈ big, w.before args s = true) (hrc : rm.cells = mc) (hrs : rm.slots = ms) (hR : rm.frames + 1 ≤ R.frames ∧ 8 + (1 + 11) + rm.locals ≤ R.locals) : CallW R s args RL RX9 103 yX9_unbranch cX9_unbranch 1 (some .int) wyX9_unbranch rm mc ms 0 := ⟨callB_of 0 hts (big_code ok_X9_unbranch) rfl hrc hrs (hts (.initialized RX9) (in_r1 _ (List.mem_of_getElem? (i := 2) rfl))) (hts (.methodLink RL 103 yX9_unbranch) (in_r33 _ (List.mem_of_getElem? (i := 10) rfl))) (by decide +kernel) hR, (hts (.instanceMethod yX9_unbranch) (in_r33 _ (List.mem_of_getElem? (i := 11) rfl))), (hts (.selects RX9 yX9_unbranch yX9_unbranch) (in_r33 _ (List.mem_of_getElem? (i := 12) rfl)))⟩
theorem cw_X9_213 {R : Room} {s : State} {args : Array Value} {rm : Room} {mc ms : Nat} (hts : ∀ w ∈ big, w.before args s = true) (hrc : rm.cells = mc) (hrs : rm.slots = ms) (hR : rm.frames + 1 ≤ R.frames ∧ 8 + (1 + 11) + rm.locals ≤ R.locals) : CallW R s args RX9 RX1 213 yX1_dropAll cX1_dropAll 1 (some .int) wyX1_dropAll rm mc ms 0 := ⟨callB_of 0 hts (big_code ok_X1_dropAll) rfl hrc hrs (hts (.initialized RX1) (in_r2 _ (List.mem_of_getElem? (i := 14) rfl))) (hts (.methodLink RX9 213 yX1_dropAll) (in_r33 _ (List.mem_of_getElem? (i := 14) rfl))) (by decide +kernel) hR, (hts (.instanceMethod yX1_dropAll) (in_r33 _ (List.mem_of_getElem? (i := 15) rfl))), (hts (.selects RX1 yX1_dropAll yX1_dropAll) (in_r33 _ (List.mem_of_getElem? (i := 16) rfl)))⟩
theorem cw_X1_36 {R : Room} {s : State} {args : Array Value} {rm : Room} {mc ms : Nat} (hts : ∀ w ∈ big, w.before args s = true) (hrc : rm.cells = mc) (hrs : rm.slots = ms) (hR : rm.frames + 1 ≤ R.frames ∧ 8 + (2 + 11) + rm.locals ≤ R.locals) : CallW R s args RX1 RX5 36 yX5_clear cX5_clear 2 (some .int) wyX5_clear rm mc ms 0 := ⟨callB_of 0 hts (big_code ok_X5_clear) rfl hrc hrs (hts (.initialized RX5) (in_r3 _ (List.mem_of_getElem? (i := 1) rfl))) (hts (.methodLink RX1 36 yX5_clear) (in_r33 _ (List.mem_of_getElem? (i := 18) rfl))) (by decide +kernel) hR, (hts (.instanceMethod yX5_clear) (in_r18 _ (List.mem_of_getElem? (i := 14) rfl))), (hts (.selects RX5 yX5_clear yX5_clear) (in_r18 _ (List.mem_of_getElem? (i := 15) rfl)))⟩
theorem cw_L_106 {R : Room} {s : State} {args : Array Value} {rm : Room} {mc ms : Nat} (hts : ∀ w ∈ big, w.before args s = true) (hrc : rm.cells = mc) (hrs : rm.slots = ms) (hR : rm.frames + 1 ≤ R.frames ∧ 8 + (2 + 11) + rm.locals ≤ R.locals) : CallW R s args RL RX10 106 yX10_unbranch cX10_unbranch 2 (some .int) wyX10_unbranch rm mc ms 0 := ⟨callB_of 0 hts (big_code ok_X10_unbranch) rfl hrc hrs (hts (.initialized RX10) (in_r1 _ (List.mem_of_getElem? (i := 5) rfl))) (hts (.methodLink RL 106 yX10_unbranch) (in_r33 _ (List.mem_of_getElem? (i := 19) rfl))) (by decide +kernel) hR, (hts (.instanceMethod yX10_unbranch) (in_r33 _ (List.mem_of_getElem? (i := 20) rfl))), (hts (.selects RX10 yX10_unbranch yX10_unbranch) (in_r33 _ (List.mem_of_getElem? (i := 21) rfl)))⟩
theorem cw_L_107 {R : Room} {s : State} {args : Array Value} {rm : Room} {mc ms : Nat} (hts : ∀ w ∈ big, w.before args s = true) (hrc : rm.cells = mc) (hrs : rm.slots = ms) (hR : rm.frames + 1 ≤ R.frames ∧ 8 + (2 + 11) + rm.locals ≤ R.locals) : CallW R s args RL RX9 107 yX9_worst cX9_worst 2 (some .int) wyX9_worst rm mc ms 1 := ⟨callB_of 1 hts (big_code ok_X9_worst) rfl hrc hrs (hts (.initialized RX9) (in_r1 _ (List.mem_of_getElem? (i := 2) rfl))) (hts (.methodLink RL 107 yX9_worst) (in_r33 _ (List.mem_of_getElem? (i := 23) rfl))) (by decide +kernel) hR, (hts (.instanceMethod yX9_worst) (in_r34 _ (List.mem_of_getElem? (i := 0) rfl))), (hts (.selects RX9 yX9_worst yX9_worst) (in_r34 _ (List.mem_of_getElem? (i := 1) rfl)))⟩
theorem cw_X9_214 {R : Room} {s : State} {args : Array Value} {rm : Room} {mc ms : Nat} (hts : ∀ w ∈ big, w.before args s = true) (hrc : rm.cells = mc) (hrs : rm.slots = ms) (hR : rm.frames + 1 ≤ R.frames ∧ 8 + (5 + 11) + rm.locals ≤ R.locals) : CallW R s args RX9 RX1 214 yX1_findBestSplit cX1_findBestSplit 5 (some .int) wyX1_findBestSplit rm mc ms 1 := ⟨callB_of 1 hts (big_code ok_X1_findBestSplit) rfl hrc hrs (hts (.initialized RX1) (in_r2 _ (List.mem_of_getElem? (i := 14) rfl))) (hts (.methodLink RX9 214 yX1_findBestSplit) (in_r34 _ (List.mem_of_getElem? (i := 3) rfl))) (by decide +kernel) hR, (hts (.instanceMethod yX1_findBestSplit) (in_r34 _ (List.mem_of_getElem? (i := 4) rfl))), (hts (.selects RX1 yX1_findBestSplit yX1_findBestSplit) (in_r34 _ (List.mem_of_getElem? (i := 5) rfl)))⟩
theorem cw_X1_42 {R : Room} {s : State} {args : Array Value} {rm : Room} {mc ms : Nat} (hts : ∀ w ∈ big, w.before args s = true) (hrc : rm.cells = mc) (hrs : rm.slots = ms) (hR : rm.frames + 1 ≤ R.frames ∧ 8 + (1 + 11) + rm.locals ≤ R.locals) : CallW R s args RX1 RX1 42 yX1_branchCount cX1_branchCount 1 (some .int) wyX1_branchCount rm mc ms 0 := ⟨callB_of 0 hts (big_code ok_X1_branchCount) rfl hrc hrs (hts (.initialized RX1) (in_r2 _ (List.mem_of_getElem? (i := 14) rfl))) (hts (.methodLink RX1 42 yX1_branchCount) (in_r34 _ (List.mem_of_getElem? (i := 7) rfl))) (by decide +kernel) hR, (hts (.instanceMethod yX1_branchCount) (in_r32 _ (List.mem_of_getElem? (i := 20) rfl))), (hts (.selects RX1 yX1_branchCount yX1_branchCount) (in_r32 _ (List.mem_of_getElem? (i := 21) rfl)))⟩
theorem cw_X1_45 {R : Room} {s : State} {args : Array Value} {rm : Room} {mc ms : Nat} (hts : ∀ w ∈ big, w.before args s = true) (hrc : rm.cells = mc) (hrs : rm.slots = ms) (hR : rm.frames + 1 ≤ R.frames ∧ 8 + (3 + 11) + rm.locals ≤ R.locals) : CallW R s args RX1 RX5 45 yX5_put cX5_put 3 none wyX5_put rm mc ms 2 := ⟨callB_of 2 hts (big_code ok_X5_put) rfl hrc hrs (hts (.initialized RX5) (in_r3 _ (List.mem_of_getElem? (i := 1) rfl))) (hts (.methodLink RX1 45 yX5_put) (in_r34 _ (List.mem_of_getElem? (i := 8) rfl))) (by decide +kernel) hR, (hts (.instanceMethod yX5_put) (in_r10 _ (List.mem_of_getElem? (i := 10) rfl))), (hts (.selects RX5 yX5_put yX5_put) (in_r10 _ (List.mem_of_getElem? (i := 11) rfl)))⟩
theorem cw_X1_49 {R : Room} {s : State} {args : Array Value} {rm : Room} {mc ms : Nat} (hts : ∀ w ∈ big, w.before args s = true) (hrc : rm.cells = mc) (hrs : rm.slots = ms) (hR : rm.frames + 1 ≤ R.frames ∧ 8 + (8 + 11) + rm.locals ≤ R.locals) : CallW R s args RX1 RX1 49 yX1_worstTime cX1_worstTime 8 (some .int) wyX1_worstTime rm mc ms 1 := ⟨callB_of 1 hts (big_code ok_X1_worstTime) rfl hrc hrs (hts (.initialized RX1) (in_r2 _ (List.mem_of_getElem? (i := 14) rfl))) (hts (.methodLink RX1 49 yX1_worstTime) (in_r34 _ (List.mem_of_getElem? (i := 9) rfl))) (by decide +kernel) hR, (hts (.instanceMethod yX1_worstTime) (in_r34 _ (List.mem_of_getElem? (i := 10) rfl))), (hts (.selects RX1 yX1_worstTime yX1_worstTime) (in_r34 _ (List.mem_of_getElem? (i := 11) rfl)))⟩
theorem cw_X1_39 {R : Room} {s : State} {args : Array Value} {rm : Room} {mc ms : Nat} (hts : ∀ w ∈ big, w.before args s = true) (hrc : rm.cells = mc) (hrs : rm.slots = ms) (hR : rm.frames + 1 ≤ R.frames ∧ 8 + (2 + 11) + rm.locals ≤ R.locals) : CallW R s args RX1 RX5 39 yX5_get cX5_get 2 (some .int) wyX5_get rm mc ms 1 := ⟨callB_of 1 hts (big_code ok_X5_get) rfl hrc hrs (hts (.initialized RX5) (in_r3 _ (List.mem_of_getElem? (i := 1) rfl))) (hts (.methodLink RX1 39 yX5_get) (in_r34 _ (List.mem_of_getElem? (i := 14) rfl))) (by decide +kernel) hR, (hts (.instanceMethod yX5_get) (in_r9 _ (List.mem_of_getElem? (i := 4) rfl))), (hts (.selects RX5 yX5_get yX5_get) (in_r9 _ (List.mem_of_getElem? (i := 5) rfl)))⟩
theorem cw_X1_52 {R : Room} {s : State} {args : Array Value} {rm : Room} {mc ms : Nat} (hts : ∀ w ∈ big, w.before args s = true) (hrc : rm.cells = mc) (hrs : rm.slots = ms) (hR : rm.frames + 1 ≤ R.frames ∧ 8 + (2 + 11) + rm.locals ≤ R.locals) : CallW R s args RX1 RX1 52 yX1_keepTried cX1_keepTried 2 none wyX1_keepTried rm mc ms 0 := ⟨callB_of 0 hts (big_code ok_X1_keepTried) rfl hrc hrs (hts (.initialized RX1) (in_r2 _ (List.mem_of_getElem? (i := 14) rfl))) (hts (.methodLink RX1 52 yX1_keepTried) (in_r34 _ (List.mem_of_getElem? (i := 15) rfl))) (by decide +kernel) hR, (hts (.instanceMethod yX1_keepTried) (in_r34 _ (List.mem_of_getElem? (i := 16) rfl))), (hts (.selects RX1 yX1_keepTried yX1_keepTried) (in_r34 _ (List.mem_of_getElem? (i := 17) rfl)))⟩
theorem cw_X1_55 {R : Room} {s : State} {args : Array Value} {rm : Room} {mc ms : Nat} (hts : ∀ w ∈ big, w.before args s = true) (hrc : rm.cells = mc) (hrs : rm.slots = ms) (hR : rm.frames + 1 ≤ R.frames ∧ 8 + (4 + 11) + rm.locals ≤ R.locals) : CallW R s args RX1 RX1 55 yX1_takeNextSplit cX1_takeNextSplit 4 (some .boolean) wyX1_takeNextSplit rm mc ms 1 := ⟨callB_of 1 hts (big_code ok_X1_takeNextSplit) rfl hrc hrs (hts (.initialized RX1) (in_r2 _ (List.mem_of_getElem? (i := 14) rfl))) (hts (.methodLink RX1 55 yX1_takeNextSplit) (in_r34 _ (List.mem_of_getElem? (i := 19) rfl))) (by decide +kernel) hR, (hts (.instanceMethod yX1_takeNextSplit) (in_r34 _ (List.mem_of_getElem? (i := 20) rfl))), (hts (.selects RX1 yX1_takeNextSplit yX1_takeNextSplit) (in_r34 _ (List.mem_of_getElem? (i := 21) rfl)))⟩
theorem cw_L_110 {R : Room} {s : State} {args : Array Value} {rm : Room} {mc ms : Nat} (hts : ∀ w ∈ big, w.before args s = true) (hrc : rm.cells = mc) (hrs : rm.slots = ms) (hR : rm.frames + 1 ≤ R.frames ∧ 8 + (2 + 11) + rm.locals ≤ R.locals) : CallW R s args RL RX10 110 yX10_worst cX10_worst 2 (some .int) wyX10_worst rm mc ms 1 := ⟨callB_of 1 hts (big_code ok_X10_worst) rfl hrc hrs (hts (.initialized RX10) (in_r1 _ (List.mem_of_getElem? (i := 5) rfl))) (hts (.methodLink RL 110 yX10_worst) (in_r34 _ (List.mem_of_getElem? (i := 23) rfl))) (by decide +kernel) hR, (hts (.instanceMethod yX10_worst) (in_r35 _ (List.mem_of_getElem? (i := 0) rfl))), (hts (.selects RX10 yX10_worst yX10_worst) (in_r35 _ (List.mem_of_getElem? (i := 1) rfl)))⟩
theorem cw_X10_193 {R : Room} {s : State} {args : Array Value} {rm : Room} {mc ms : Nat} (hts : ∀ w ∈ big, w.before args s = true) (hrc : rm.cells = mc) (hrs : rm.slots = ms) (hR : rm.frames + 1 ≤ R.frames ∧ 8 + (8 + 11) + rm.locals ≤ R.locals) : CallW R s args RX10 RX10 193 yX10_findSplit cX10_findSplit 8 (some .int) wyX10_findSplit rm mc ms 1 := ⟨callB_of 1 hts (big_code ok_X10_findSplit) rfl hrc hrs (hts (.initialized RX10) (in_r1 _ (List.mem_of_getElem? (i := 5) rfl))) (hts (.methodLink RX10 193 yX10_findSplit) (in_r35 _ (List.mem_of_getElem? (i := 4) rfl))) (by decide +kernel) hR, (hts (.instanceMethod yX10_findSplit) (in_r35 _ (List.mem_of_getElem? (i := 5) rfl))), (hts (.selects RX10 yX10_findSplit yX10_findSplit) (in_r35 _ (List.mem_of_getElem? (i := 6) rfl)))⟩
theorem cw_X10_190 {R : Room} {s : State} {args : Array Value} {rm : Room} {mc ms : Nat} (hts : ∀ w ∈ big, w.before args s = true) (hrc : rm.cells = mc) (hrs : rm.slots = ms) (hR : rm.frames + 1 ≤ R.frames ∧ 8 + (7 + 11) + rm.locals ≤ R.locals) : CallW R s args RX10 RX10 190 yX10_foundAt cX10_foundAt 7 (some .int) wyX10_foundAt rm mc ms 3 := ⟨callB_of 3 hts (big_code ok_X10_foundAt) rfl hrc hrs (hts (.initialized RX10) (in_r1 _ (List.mem_of_getElem? (i := 5) rfl))) (hts (.methodLink RX10 190 yX10_foundAt) (in_r35 _ (List.mem_of_getElem? (i := 8) rfl))) (by decide +kernel) hR, (hts (.instanceMethod yX10_foundAt) (in_r35 _ (List.mem_of_getElem? (i := 9) rfl))), (hts (.selects RX10 yX10_foundAt yX10_foundAt) (in_r35 _ (List.mem_of_getElem? (i := 10) rfl)))⟩
theorem cw_X10_183 {R : Room} {s : State} {args : Array Value} {rm : Room} {mc ms : Nat} (hts : ∀ w ∈ big, w.before args s = true) (hrc : rm.cells = mc) (hrs : rm.slots = ms) (hR : rm.frames + 1 ≤ R.frames ∧ 8 + (6 + 11) + rm.locals ≤ R.locals) : CallW R s args RX10 RX10 183 yX10_houndOf cX10_houndOf 6 (some .int) wyX10_houndOf rm mc ms 3 := ⟨callB_of 3 hts (big_code ok_X10_houndOf) rfl hrc hrs (hts (.initialized RX10) (in_r1 _ (List.mem_of_getElem? (i := 5) rfl))) (hts (.methodLink RX10 183 yX10_houndOf) (in_r35 _ (List.mem_of_getElem? (i := 12) rfl))) (by decide +kernel) hR, (hts (.instanceMethod yX10_houndOf) (in_r35 _ (List.mem_of_getElem? (i := 13) rfl))), (hts (.selects RX10 yX10_houndOf yX10_houndOf) (in_r35 _ (List.mem_of_getElem? (i := 14) rfl)))⟩
theorem cw_L_111 {R : Room} {s : State} {args : Array Value} {rm : Room} {mc ms : Nat} (hts : ∀ w ∈ big, w.before args s = true) (hrc : rm.cells = mc) (hrs : rm.slots = ms) (hR : rm.frames + 1 ≤ R.frames ∧ 8 + (4 + 11) + rm.locals ≤ R.locals) : CallW R s args RL RX9 111 yX9_split cX9_split 4 (some .int) wyX9_split rm mc ms 3 := ⟨callB_of 3 hts (big_code ok_X9_split) rfl hrc hrs (hts (.initialized RX9) (in_r1 _ (List.mem_of_getElem? (i := 2) rfl))) (hts (.methodLink RL 111 yX9_split) (in_r35 _ (List.mem_of_getElem? (i := 16) rfl))) (by decide +kernel) hR, (hts (.instanceMethod yX9_split) (in_r35 _ (List.mem_of_getElem? (i := 17) rfl))), (hts (.selects RX9 yX9_split yX9_split) (in_r35 _ (List.mem_of_getElem? (i := 18) rfl)))⟩
theorem cw_X9_217 {R : Room} {s : State} {args : Array Value} {rm : Room} {mc ms : Nat} (hts : ∀ w ∈ big, w.before args s = true) (hrc : rm.cells = mc) (hrs : rm.slots = ms) (hR : rm.frames + 1 ≤ R.frames ∧ 8 + (2 + 11) + rm.locals ≤ R.locals) : CallW R s args RX9 RX1 217 yX1_houndOf cX1_houndOf 2 (some .int) wyX1_houndOf rm mc ms 1 := ⟨callB_of 1 hts (big_code ok_X1_houndOf) rfl hrc hrs (hts (.initialized RX1) (in_r2 _ (List.mem_of_getElem? (i := 14) rfl))) (hts (.methodLink RX9 217 yX1_houndOf) (in_r35 _ (List.mem_of_getElem? (i := 20) rfl))) (by decide +kernel) hR, (hts (.instanceMethod yX1_houndOf) (in_r35 _ (List.mem_of_getElem? (i := 21) rfl))), (hts (.selects RX1 yX1_houndOf yX1_houndOf) (in_r35 _ (List.mem_of_getElem? (i := 22) rfl)))⟩
theorem cw_X9_220 {R : Room} {s : State} {args : Array Value} {rm : Room} {mc ms : Nat} (hts : ∀ w ∈ big, w.before args s = true) (hrc : rm.cells = mc) (hrs : rm.slots = ms) (hR : rm.frames + 1 ≤ R.frames ∧ 8 + (4 + 11) + rm.locals ≤ R.locals) : CallW R s args RX9 RX1 220 yX1_timeOf cX1_timeOf 4 (some .int) wyX1_timeOf rm mc ms 1 := ⟨callB_of 1 hts (big_code ok_X1_timeOf) rfl hrc hrs (hts (.initialized RX1) (in_r2 _ (List.mem_of_getElem? (i := 14) rfl))) (hts (.methodLink RX9 220 yX1_timeOf) (in_r36 _ (List.mem_of_getElem? (i := 0) rfl))) (by decide +kernel) hR, (hts (.instanceMethod yX1_timeOf) (in_r36 _ (List.mem_of_getElem? (i := 1) rfl))), (hts (.selects RX1 yX1_timeOf yX1_timeOf) (in_r36 _ (List.mem_of_getElem? (i := 2) rfl)))⟩
theorem cw_X1_65 {R : Room} {s : State} {args : Array Value} {rm : Room} {mc ms : Nat} (hts : ∀ w ∈ big, w.before args s = true) (hrc : rm.cells = mc) (hrs : rm.slots = ms) (hR : rm.frames + 1 ≤ R.frames ∧ 8 + (2 + 11) + rm.locals ≤ R.locals) : CallW R s args RX1 RX1 65 yX1_houndOf cX1_houndOf 2 (some .int) wyX1_houndOf rm mc ms 1 := ⟨callB_of 1 hts (big_code ok_X1_houndOf) rfl hrc hrs (hts (.initialized RX1) (in_r2 _ (List.mem_of_getElem? (i := 14) rfl))) (hts (.methodLink RX1 65 yX1_houndOf) (in_r36 _ (List.mem_of_getElem? (i := 4) rfl))) (by decide +kernel) hR, (hts (.instanceMethod yX1_houndOf) (in_r35 _ (List.mem_of_getElem? (i := 21) rfl))), (hts (.selects RX1 yX1_houndOf yX1_houndOf) (in_r35 _ (List.mem_of_getElem? (i := 22) rfl)))⟩
theorem cw_X1_68 {R : Room} {s : State} {args : Array Value} {rm : Room} {mc ms : Nat} (hts : ∀ w ∈ big, w.before args s = true) (hrc : rm.cells = mc) (hrs : rm.slots = ms) (hR : rm.frames + 1 ≤ R.frames ∧ 8 + (4 + 11) + rm.locals ≤ R.locals) : CallW R s args RX1 RX1 68 yX1_comesBefore cX1_comesBefore 4 (some .boolean) wyX1_comesBefore rm mc ms 2 := ⟨callB_of 2 hts (big_code ok_X1_comesBefore) rfl hrc hrs (hts (.initialized RX1) (in_r2 _ (List.mem_of_getElem? (i := 14) rfl))) (hts (.methodLink RX1 68 yX1_comesBefore) (in_r36 _ (List.mem_of_getElem? (i := 5) rfl))) (by decide +kernel) hR, (hts (.instanceMethod yX1_comesBefore) (in_r36 _ (List.mem_of_getElem? (i := 6) rfl))), (hts (.selects RX1 yX1_comesBefore yX1_comesBefore) (in_r36 _ (List.mem_of_getElem? (i := 7) rfl)))⟩
theorem cw_L_114 {R : Room} {s : State} {args : Array Value} {rm : Room} {mc ms : Nat} (hts : ∀ w ∈ big, w.before args s = true) (hrc : rm.cells = mc) (hrs : rm.slots = ms) (hR : rm.frames + 1 ≤ R.frames ∧ 8 + (5 + 11) + rm.locals ≤ R.locals) : CallW R s args RL RX10 114 yX10_split cX10_split 5 (some .int) wyX10_split rm mc ms 3 := ⟨callB_of 3 hts (big_code ok_X10_split) rfl hrc hrs (hts (.initialized RX10) (in_r1 _ (List.mem_of_getElem? (i := 5) rfl))) (hts (.methodLink RL 114 yX10_split) (in_r36 _ (List.mem_of_getElem? (i := 9) rfl))) (by decide +kernel) hR, (hts (.instanceMethod yX10_split) (in_r36 _ (List.mem_of_getElem? (i := 10) rfl))), (hts (.selects RX10 yX10_split yX10_split) (in_r36 _ (List.mem_of_getElem? (i := 11) rfl)))⟩
theorem cw_L_115 {R : Room} {s : State} {args : Array Value} {rm : Room} {mc ms : Nat} (hts : ∀ w ∈ big, w.before args s = true) (hrc : rm.cells = mc) (hrs : rm.slots = ms) (hR : rm.frames + 1 ≤ R.frames ∧ 8 + (3 + 11) + rm.locals ≤ R.locals) : CallW R s args RL RX9 115 yX9_club cX9_club 3 (some .int) wyX9_club rm mc ms 2 := ⟨callB_of 2 hts (big_code ok_X9_club) rfl hrc hrs (hts (.initialized RX9) (in_r1 _ (List.mem_of_getElem? (i := 2) rfl))) (hts (.methodLink RL 115 yX9_club) (in_r36 _ (List.mem_of_getElem? (i := 13) rfl))) (by decide +kernel) hR, (hts (.instanceMethod yX9_club) (in_r36 _ (List.mem_of_getElem? (i := 14) rfl))), (hts (.selects RX9 yX9_club yX9_club) (in_r36 _ (List.mem_of_getElem? (i := 15) rfl)))⟩
theorem cw_X9_223 {R : Room} {s : State} {args : Array Value} {rm : Room} {mc ms : Nat} (hts : ∀ w ∈ big, w.before args s = true) (hrc : rm.cells = mc) (hrs : rm.slots = ms) (hR : rm.frames + 1 ≤ R.frames ∧ 8 + (1 + 11) + rm.locals ≤ R.locals) : CallB R s args RX9 223 yX9_isClub cX9_isClub 1 (some .boolean) wyX9_isClub rm mc ms 1 ∧ (Cond.static yX9_isClub).before args s = true := ⟨callB_of 1 hts (big_code ok_X9_isClub) rfl hrc hrs (hts (.initialized RX9) (in_r1 _ (List.mem_of_getElem? (i := 2) rfl))) (hts (.methodLink RX9 223 yX9_isClub) (in_r36 _ (List.mem_of_getElem? (i := 17) rfl))) (by decide +kernel) hR, (hts (.static yX9_isClub) (in_r36 _ (List.mem_of_getElem? (i := 18) rfl)))⟩
theorem cw_X9_226 {R : Room} {s : State} {args : Array Value} {rm : Room} {mc ms : Nat} (hts : ∀ w ∈ big, w.before args s = true) (hrc : rm.cells = mc) (hrs : rm.slots = ms) (hR : rm.frames + 1 ≤ R.frames ∧ 8 + (1 + 11) + rm.locals ≤ R.locals) : CallW R s args RX9 RX2 226 yX2_allPaths cX2_allPaths 1 (some .int) wyX2_allPaths rm mc ms 0 := ⟨callB_of 0 hts (big_code ok_X2_allPaths) rfl hrc hrs (hts (.initialized RX2) (in_r1 _ (List.mem_of_getElem? (i := 14) rfl))) (hts (.methodLink RX9 226 yX2_allPaths) (in_r36 _ (List.mem_of_getElem? (i := 20) rfl))) (by decide +kernel) hR, (hts (.instanceMethod yX2_allPaths) (in_r36 _ (List.mem_of_getElem? (i := 21) rfl))), (hts (.selects RX2 yX2_allPaths yX2_allPaths) (in_r36 _ (List.mem_of_getElem? (i := 22) rfl)))⟩
theorem cw_X9_229 {R : Room} {s : State} {args : Array Value} {rm : Room} {mc ms : Nat} (hts : ∀ w ∈ big, w.before args s = true) (hrc : rm.cells = mc) (hrs : rm.slots = ms) (hR : rm.frames + 1 ≤ R.frames ∧ 8 + (4 + 11) + rm.locals ≤ R.locals) : CallW R s args RX9 RX0 229 yX0_changePaths cX0_changePaths 4 (some .int) wyX0_changePaths rm mc ms 2 := ⟨callB_of 2 hts (big_code ok_X0_changePaths) rfl hrc hrs (hts (.initialized RX0) (in_r2 _ (List.mem_of_getElem? (i := 18) rfl))) (hts (.methodLink RX9 229 yX0_changePaths) (in_r37 _ (List.mem_of_getElem? (i := 0) rfl))) (by decide +kernel) hR, (hts (.instanceMethod yX0_changePaths) (in_r37 _ (List.mem_of_getElem? (i := 1) rfl))), (hts (.selects RX0 yX0_changePaths yX0_changePaths) (in_r37 _ (List.mem_of_getElem? (i := 2) rfl)))⟩
theorem cw_X0_33 {R : Room} {s : State} {args : Array Value} {rm : Room} {mc ms : Nat} (hts : ∀ w ∈ big, w.before args s = true) (hrc : rm.cells = mc) (hrs : rm.slots = ms) (hR : rm.frames + 1 ≤ R.frames ∧ 8 + (2 + 11) + rm.locals ≤ R.locals) : CallW R s args RX0 RX5 33 yX5_get cX5_get 2 (some .int) wyX5_get rm mc ms 1 := ⟨callB_of 1 hts (big_code ok_X5_get) rfl hrc hrs (hts (.initialized RX5) (in_r3 _ (List.mem_of_getElem? (i := 1) rfl))) (hts (.methodLink RX0 33 yX5_get) (in_r37 _ (List.mem_of_getElem? (i := 4) rfl))) (by decide +kernel) hR, (hts (.instanceMethod yX5_get) (in_r9 _ (List.mem_of_getElem? (i := 4) rfl))), (hts (.selects RX5 yX5_get yX5_get) (in_r9 _ (List.mem_of_getElem? (i := 5) rfl)))⟩
theorem cw_X0_37 {R : Room} {s : State} {args : Array Value} {rm : Room} {mc ms : Nat} (hts : ∀ w ∈ big, w.before args s = true) (hrc : rm.cells = mc) (hrs : rm.slots = ms) (hR : rm.frames + 1 ≤ R.frames ∧ 8 + (3 + 11) + rm.locals ≤ R.locals) : CallW R s args RX0 RX5 37 yX5_put cX5_put 3 none wyX5_put rm mc ms 2 := ⟨callB_of 2 hts (big_code ok_X5_put) rfl hrc hrs (hts (.initialized RX5) (in_r3 _ (List.mem_of_getElem? (i := 1) rfl))) (hts (.methodLink RX0 37 yX5_put) (in_r37 _ (List.mem_of_getElem? (i := 5) rfl))) (by decide +kernel) hR, (hts (.instanceMethod yX5_put) (in_r10 _ (List.mem_of_getElem? (i := 10) rfl))), (hts (.selects RX5 yX5_put yX5_put) (in_r10 _ (List.mem_of_getElem? (i := 11) rfl)))⟩
theorem cw_L_118 {R : Room} {s : State} {args : Array Value} {rm : Room} {mc ms : Nat} (hts : ∀ w ∈ big, w.before args s = true) (hrc : rm.cells = mc) (hrs : rm.slots = ms) (hR : rm.frames + 1 ≤ R.frames ∧ 8 + (4 + 11) + rm.locals ≤ R.locals) : CallW R s args RL RX10 118 yX10_club cX10_club 4 (some .int) wyX10_club rm mc ms 2 := ⟨callB_of 2 hts (big_code ok_X10_club) rfl hrc hrs (hts (.initialized RX10) (in_r1 _ (List.mem_of_getElem? (i := 5) rfl))) (hts (.methodLink RL 118 yX10_club) (in_r37 _ (List.mem_of_getElem? (i := 6) rfl))) (by decide +kernel) hR, (hts (.instanceMethod yX10_club) (in_r37 _ (List.mem_of_getElem? (i := 7) rfl))), (hts (.selects RX10 yX10_club yX10_club) (in_r37 _ (List.mem_of_getElem? (i := 8) rfl)))⟩
theorem cw_L_119 {R : Room} {s : State} {args : Array Value} {rm : Room} {mc ms : Nat} (hts : ∀ w ∈ big, w.before args s = true) (hrc : rm.cells = mc) (hrs : rm.slots = ms) (hR : rm.frames + 1 ≤ R.frames ∧ 8 + (4 + 11) + rm.locals ≤ R.locals) : CallW R s args RL RX9 119 yX9_colour cX9_colour 4 (some .int) wyX9_colour rm mc ms 3 := ⟨callB_of 3 hts (big_code ok_X9_colour) rfl hrc hrs (hts (.initialized RX9) (in_r1 _ (List.mem_of_getElem? (i := 2) rfl))) (hts (.methodLink RL 119 yX9_colour) (in_r37 _ (List.mem_of_getElem? (i := 10) rfl))) (by decide +kernel) hR, (hts (.instanceMethod yX9_colour) (in_r37 _ (List.mem_of_getElem? (i := 11) rfl))), (hts (.selects RX9 yX9_colour yX9_colour) (in_r37 _ (List.mem_of_getElem? (i := 12) rfl)))⟩
theorem cw_X9_235 {R : Room} {s : State} {args : Array Value} {rm : Room} {mc ms : Nat} (hts : ∀ w ∈ big, w.before args s = true) (hrc : rm.cells = mc) (hrs : rm.slots = ms) (hR : rm.frames + 1 ≤ R.frames ∧ 8 + (1 + 11) + rm.locals ≤ R.locals) : CallW R s args RX9 RX0 235 yX0_toldColours cX0_toldColours 1 (some .int) wyX0_toldColours rm mc ms 0 := ⟨callB_of 0 hts (big_code ok_X0_toldColours) rfl hrc hrs (hts (.initialized RX0) (in_r2 _ (List.mem_of_getElem? (i := 18) rfl))) (hts (.methodLink RX9 235 yX0_toldColours) (in_r37 _ (List.mem_of_getElem? (i := 14) rfl))) (by decide +kernel) hR, (hts (.instanceMethod yX0_toldColours) (in_r37 _ (List.mem_of_getElem? (i := 15) rfl))), (hts (.selects RX0 yX0_toldColours yX0_toldColours) (in_r37 _ (List.mem_of_getElem? (i := 16) rfl)))⟩
theorem cw_X0_41 {R : Room} {s : State} {args : Array Value} {rm : Room} {mc ms : Nat} (hts : ∀ w ∈ big, w.before args s = true) (hrc : rm.cells = mc) (hrs : rm.slots = ms) (hR : rm.frames + 1 ≤ R.frames ∧ 8 + (1 + 11) + rm.locals ≤ R.locals) : CallW R s args RX0 RX5 41 yX5_size cX5_size 1 (some .int) wyX5_size rm mc ms 0 := ⟨callB_of 0 hts (big_code ok_X5_size) rfl hrc hrs (hts (.initialized RX5) (in_r3 _ (List.mem_of_getElem? (i := 1) rfl))) (hts (.methodLink RX0 41 yX5_size) (in_r37 _ (List.mem_of_getElem? (i := 18) rfl))) (by decide +kernel) hR, (hts (.instanceMethod yX5_size) (in_r9 _ (List.mem_of_getElem? (i := 19) rfl))), (hts (.selects RX5 yX5_size yX5_size) (in_r9 _ (List.mem_of_getElem? (i := 20) rfl)))⟩
theorem cw_X9_238 {R : Room} {s : State} {args : Array Value} {rm : Room} {mc ms : Nat} (hts : ∀ w ∈ big, w.before args s = true) (hrc : rm.cells = mc) (hrs : rm.slots = ms) (hR : rm.frames + 1 ≤ R.frames ∧ 8 + (4 + 11) + rm.locals ≤ R.locals) : CallW R s args RX9 RX0 238 yX0_tellColour cX0_tellColour 4 (some .int) wyX0_tellColour rm mc ms 3 := ⟨callB_of 3 hts (big_code ok_X0_tellColour) rfl hrc hrs (hts (.initialized RX0) (in_r2 _ (List.mem_of_getElem? (i := 18) rfl))) (hts (.methodLink RX9 238 yX0_tellColour) (in_r37 _ (List.mem_of_getElem? (i := 19) rfl))) (by decide +kernel) hR, (hts (.instanceMethod yX0_tellColour) (in_r37 _ (List.mem_of_getElem? (i := 20) rfl))), (hts (.selects RX0 yX0_tellColour yX0_tellColour) (in_r37 _ (List.mem_of_getElem? (i := 21) rfl)))⟩
theorem cw_X0_45 {R : Room} {s : State} {args : Array Value} {rm : Room} {mc ms : Nat} (hts : ∀ w ∈ big, w.before args s = true) (hrc : rm.cells = mc) (hrs : rm.slots = ms) (hR : rm.frames + 1 ≤ R.frames ∧ 8 + (2 + 11) + rm.locals ≤ R.locals) : CallW R s args RX0 RX5 45 yX5_push cX5_push 2 (some .int) wyX5_push rm mc ms 1 := ⟨callB_of 1 hts (big_code ok_X5_push) rfl hrc hrs (hts (.initialized RX5) (in_r3 _ (List.mem_of_getElem? (i := 1) rfl))) (hts (.methodLink RX0 45 yX5_push) (in_r37 _ (List.mem_of_getElem? (i := 23) rfl))) (by decide +kernel) hR, (hts (.instanceMethod yX5_push) (in_r10 _ (List.mem_of_getElem? (i := 4) rfl))), (hts (.selects RX5 yX5_push yX5_push) (in_r10 _ (List.mem_of_getElem? (i := 5) rfl)))⟩
theorem cw_L_122 {R : Room} {s : State} {args : Array Value} {rm : Room} {mc ms : Nat} (hts : ∀ w ∈ big, w.before args s = true) (hrc : rm.cells = mc) (hrs : rm.slots = ms) (hR : rm.frames + 1 ≤ R.frames ∧ 8 + (4 + 11) + rm.locals ≤ R.locals) : CallW R s args RL RX10 122 yX10_colour cX10_colour 4 (some .int) wyX10_colour rm mc ms 3 := ⟨callB_of 3 hts (big_code ok_X10_colour) rfl hrc hrs (hts (.initialized RX10) (in_r1 _ (List.mem_of_getElem? (i := 5) rfl))) (hts (.methodLink RL 122 yX10_colour) (in_r38 _ (List.mem_of_getElem? (i := 0) rfl))) (by decide +kernel) hR, (hts (.instanceMethod yX10_colour) (in_r38 _ (List.mem_of_getElem? (i := 1) rfl))), (hts (.selects RX10 yX10_colour yX10_colour) (in_r38 _ (List.mem_of_getElem? (i := 2) rfl)))⟩
theorem cw_L_123 {R : Room} {s : State} {args : Array Value} {rm : Room} {mc ms : Nat} (hts : ∀ w ∈ big, w.before args s = true) (hrc : rm.cells = mc) (hrs : rm.slots = ms) (hR : rm.frames + 1 ≤ R.frames ∧ 8 + (5 + 11) + rm.locals ≤ R.locals) : CallW R s args RL RX9 123 yX9_whose cX9_whose 5 (some .int) wyX9_whose rm mc ms 4 := ⟨callB_of 4 hts (big_code ok_X9_whose) rfl hrc hrs (hts (.initialized RX9) (in_r1 _ (List.mem_of_getElem? (i := 2) rfl))) (hts (.methodLink RL 123 yX9_whose) (in_r38 _ (List.mem_of_getElem? (i := 5) rfl))) (by decide +kernel) hR, (hts (.instanceMethod yX9_whose) (in_r38 _ (List.mem_of_getElem? (i := 6) rfl))), (hts (.selects RX9 yX9_whose yX9_whose) (in_r38 _ (List.mem_of_getElem? (i := 7) rfl)))⟩
theorem cw_X9_241 {R : Room} {s : State} {args : Array Value} {rm : Room} {mc ms : Nat} (hts : ∀ w ∈ big, w.before args s = true) (hrc : rm.cells = mc) (hrs : rm.slots = ms) (hR : rm.frames + 1 ≤ R.frames ∧ 8 + (9 + 11) + rm.locals ≤ R.locals) : CallW R s args RX9 RX0 241 yX0_ownersOf cX0_ownersOf 9 (some .int) wyX0_ownersOf rm mc ms 4 := ⟨callB_of 4 hts (big_code ok_X0_ownersOf) rfl hrc hrs (hts (.initialized RX0) (in_r2 _ (List.mem_of_getElem? (i := 18) rfl))) (hts (.methodLink RX9 241 yX0_ownersOf) (in_r38 _ (List.mem_of_getElem? (i := 9) rfl))) (by decide +kernel) hR, (hts (.instanceMethod yX0_ownersOf) (in_r38 _ (List.mem_of_getElem? (i := 10) rfl))), (hts (.selects RX0 yX0_ownersOf yX0_ownersOf) (in_r38 _ (List.mem_of_getElem? (i := 11) rfl)))⟩
theorem cw_X0_48 {R : Room} {s : State} {args : Array Value} {rm : Room} {mc ms : Nat} (hts : ∀ w ∈ big, w.before args s = true) (hrc : rm.cells = mc) (hrs : rm.slots = ms) (hR : rm.frames + 1 ≤ R.frames ∧ 8 + (7 + 11) + rm.locals ≤ R.locals) : CallW R s args RX0 RX0 48 yX0_lastHue cX0_lastHue 7 (some .int) wyX0_lastHue rm mc ms 2 := ⟨callB_of 2 hts (big_code ok_X0_lastHue) rfl hrc hrs (hts (.initialized RX0) (in_r2 _ (List.mem_of_getElem? (i := 18) rfl))) (hts (.methodLink RX0 48 yX0_lastHue) (in_r38 _ (List.mem_of_getElem? (i := 13) rfl))) (by decide +kernel) hR, (hts (.instanceMethod yX0_lastHue) (in_r38 _ (List.mem_of_getElem? (i := 14) rfl))), (hts (.selects RX0 yX0_lastHue yX0_lastHue) (in_r38 _ (List.mem_of_getElem? (i := 15) rfl)))⟩
theorem cw_X0_59 {R : Room} {s : State} {args : Array Value} {rm : Room} {mc ms : Nat} (hts : ∀ w ∈ big, w.before args s = true) (hrc : rm.cells = mc) (hrs : rm.slots = ms) (hR : rm.frames + 1 ≤ R.frames ∧ 8 + (1 + 11) + rm.locals ≤ R.locals) : CallW R s args RX0 RX0 59 yX0_toldColours cX0_toldColours 1 (some .int) wyX0_toldColours rm mc ms 0 := ⟨callB_of 0 hts (big_code ok_X0_toldColours) rfl hrc hrs (hts (.initialized RX0) (in_r2 _ (List.mem_of_getElem? (i := 18) rfl))) (hts (.methodLink RX0 59 yX0_toldColours) (in_r38 _ (List.mem_of_getElem? (i := 17) rfl))) (by decide +kernel) hR, (hts (.instanceMethod yX0_toldColours) (in_r37 _ (List.mem_of_getElem? (i := 15) rfl))), (hts (.selects RX0 yX0_toldColours yX0_toldColours) (in_r37 _ (List.mem_of_getElem? (i := 16) rfl)))⟩
theorem cw_X0_52 {R : Room} {s : State} {args : Array Value} {rm : Room} {mc ms : Nat} (hts : ∀ w ∈ big, w.before args s = true) (hrc : rm.cells = mc) (hrs : rm.slots = ms) (hR : rm.frames + 1 ≤ R.frames ∧ 8 + (5 + 11) + rm.locals ≤ R.locals) : CallW R s args RX0 RX0 52 yX0_everHad cX0_everHad 5 (some .boolean) wyX0_everHad rm mc ms 3 := ⟨callB_of 3 hts (big_code ok_X0_everHad) rfl hrc hrs (hts (.initialized RX0) (in_r2 _ (List.mem_of_getElem? (i := 18) rfl))) (hts (.methodLink RX0 52 yX0_everHad) (in_r38 _ (List.mem_of_getElem? (i := 18) rfl))) (by decide +kernel) hR, (hts (.instanceMethod yX0_everHad) (in_r38 _ (List.mem_of_getElem? (i := 19) rfl))), (hts (.selects RX0 yX0_everHad yX0_everHad) (in_r38 _ (List.mem_of_getElem? (i := 20) rfl)))⟩
theorem cw_L_127 {R : Room} {s : State} {args : Array Value} {rm : Room} {mc ms : Nat} (hts : ∀ w ∈ big, w.before args s = true) (hrc : rm.cells = mc) (hrs : rm.slots = ms) (hR : rm.frames + 1 ≤ R.frames ∧ 8 + (8 + 11) + rm.locals ≤ R.locals) : CallW R s args RL RX10 127 yX10_whose cX10_whose 8 (some .int) wyX10_whose rm mc ms 4 := ⟨callB_of 4 hts (big_code ok_X10_whose) rfl hrc hrs (hts (.initialized RX10) (in_r1 _ (List.mem_of_getElem? (i := 5) rfl))) (hts (.methodLink RL 127 yX10_whose) (in_r38 _ (List.mem_of_getElem? (i := 22) rfl))) (by decide +kernel) hR, (hts (.instanceMethod yX10_whose) (in_r38 _ (List.mem_of_getElem? (i := 23) rfl))), (hts (.selects RX10 yX10_whose yX10_whose) (in_r39 _ (List.mem_of_getElem? (i := 0) rfl)))⟩
theorem cw_X10_199 {R : Room} {s : State} {args : Array Value} {rm : Room} {mc ms : Nat} (hts : ∀ w ∈ big, w.before args s = true) (hrc : rm.cells = mc) (hrs : rm.slots = ms) (hR : rm.frames + 1 ≤ R.frames ∧ 8 + (7 + 11) + rm.locals ≤ R.locals) : CallW R s args RX10 RX10 199 yX10_colourTo cX10_colourTo 7 (some .int) wyX10_colourTo rm mc ms 3 := ⟨callB_of 3 hts (big_code ok_X10_colourTo) rfl hrc hrs (hts (.initialized RX10) (in_r1 _ (List.mem_of_getElem? (i := 5) rfl))) (hts (.methodLink RX10 199 yX10_colourTo) (in_r39 _ (List.mem_of_getElem? (i := 2) rfl))) (by decide +kernel) hR, (hts (.instanceMethod yX10_colourTo) (in_r39 _ (List.mem_of_getElem? (i := 3) rfl))), (hts (.selects RX10 yX10_colourTo yX10_colourTo) (in_r39 _ (List.mem_of_getElem? (i := 4) rfl)))⟩
theorem cw_L_128 {R : Room} {s : State} {args : Array Value} {rm : Room} {mc ms : Nat} (hts : ∀ w ∈ big, w.before args s = true) (hrc : rm.cells = mc) (hrs : rm.slots = ms) (hR : rm.frames + 1 ≤ R.frames ∧ 8 + (2 + 11) + rm.locals ≤ R.locals) : CallW R s args RL RX9 128 yX9_count cX9_count 2 (some .int) wyX9_count rm mc ms 1 := ⟨callB_of 1 hts (big_code ok_X9_count) rfl hrc hrs (hts (.initialized RX9) (in_r1 _ (List.mem_of_getElem? (i := 2) rfl))) (hts (.methodLink RL 128 yX9_count) (in_r39 _ (List.mem_of_getElem? (i := 6) rfl))) (by decide +kernel) hR, (hts (.instanceMethod yX9_count) (in_r39 _ (List.mem_of_getElem? (i := 7) rfl))), (hts (.selects RX9 yX9_count yX9_count) (in_r39 _ (List.mem_of_getElem? (i := 8) rfl)))⟩
theorem cw_X9_245 {R : Room} {s : State} {args : Array Value} {rm : Room} {mc ms : Nat} (hts : ∀ w ∈ big, w.before args s = true) (hrc : rm.cells = mc) (hrs : rm.slots = ms) (hR : rm.frames + 1 ≤ R.frames ∧ 8 + (3 + 11) + rm.locals ≤ R.locals) : CallW R s args RX9 RX6 245 yX6_countLeft cX6_countLeft 3 (some .int) wyX6_countLeft rm mc ms 0 := ⟨callB_of 0 hts (big_code ok_X6_countLeft) rfl hrc hrs (hts (.initialized RX6) (in_r1 _ (List.mem_of_getElem? (i := 18) rfl))) (hts (.methodLink RX9 245 yX6_countLeft) (in_r39 _ (List.mem_of_getElem? (i := 10) rfl))) (by decide +kernel) hR, (hts (.instanceMethod yX6_countLeft) (in_r39 _ (List.mem_of_getElem? (i := 11) rfl))), (hts (.selects RX6 yX6_countLeft yX6_countLeft) (in_r39 _ (List.mem_of_getElem? (i := 12) rfl)))⟩
theorem cw_L_131 {R : Room} {s : State} {args : Array Value} {rm : Room} {mc ms : Nat} (hts : ∀ w ∈ big, w.before args s = true) (hrc : rm.cells = mc) (hrs : rm.slots = ms) (hR : rm.frames + 1 ≤ R.frames ∧ 8 + (4 + 11) + rm.locals ≤ R.locals) : CallW R s args RL RX10 131 yX10_count cX10_count 4 (some .int) wyX10_count rm mc ms 1 := ⟨callB_of 1 hts (big_code ok_X10_count) rfl hrc hrs (hts (.initialized RX10) (in_r1 _ (List.mem_of_getElem? (i := 5) rfl))) (hts (.methodLink RL 131 yX10_count) (in_r39 _ (List.mem_of_getElem? (i := 14) rfl))) (by decide +kernel) hR, (hts (.instanceMethod yX10_count) (in_r39 _ (List.mem_of_getElem? (i := 15) rfl))), (hts (.selects RX10 yX10_count yX10_count) (in_r39 _ (List.mem_of_getElem? (i := 16) rfl)))⟩
theorem cw_X9_61 {R : Room} {s : State} {args : Array Value} {rm : Room} {mc ms : Nat} (hts : ∀ w ∈ big, w.before args s = true) (hrc : rm.cells = mc) (hrs : rm.slots = ms) {D : va_G} {cI cZ : ClassId} (hK : KX D cI cZ s) (hR : rm.frames + 1 ≤ R.frames ∧ 8 + (1 + 11) + rm.locals ≤ R.locals) : va_CN R s args RX9 61 yX1_init "TwigsAndStones" cX1_init 1 none wyX1_init rm mc ms 0 ∧ yX1_init.name = "<init>" ∧ (Cond.instanceMethod yX1_init).before args s = true := ⟨va_cnB (own := RX9) (host := "TwigsAndStones") (index := 61) (y := yX1_init) 0 hts (big_code ok_X1_init) rfl hrc hrs (hK.2 ("TwigsAndStones", 61, yX1_init) (List.mem_of_getElem? (i := 0) rfl)) (hts (.initialized RX1) (in_r2 _ (List.mem_of_getElem? (i := 14) rfl))) (by decide +kernel) hR, rfl, (hts (.instanceMethod yX1_init) (in_r6 _ (List.mem_of_getElem? (i := 7) rfl)))⟩
theorem cw_X9_68 {R : Room} {s : State} {args : Array Value} {rm : Room} {mc ms : Nat} (hts : ∀ w ∈ big, w.before args s = true) (hrc : rm.cells = mc) (hrs : rm.slots = ms) {D : va_G} {cI cZ : ClassId} (hK : KX D cI cZ s) (hR : rm.frames + 1 ≤ R.frames ∧ 8 + (1 + 11) + rm.locals ≤ R.locals) : va_CN R s args RX9 68 yX0_init "TwigsAndStones" cX0_init 1 none wyX0_init rm mc ms 0 ∧ yX0_init.name = "<init>" ∧ (Cond.instanceMethod yX0_init).before args s = true := ⟨va_cnB (own := RX9) (host := "TwigsAndStones") (index := 68) (y := yX0_init) 0 hts (big_code ok_X0_init) rfl hrc hrs (hK.2 ("TwigsAndStones", 68, yX0_init) (List.mem_of_getElem? (i := 1) rfl)) (hts (.initialized RX0) (in_r2 _ (List.mem_of_getElem? (i := 18) rfl))) (by decide +kernel) hR, rfl, (hts (.instanceMethod yX0_init) (in_r6 _ (List.mem_of_getElem? (i := 16) rfl)))⟩
theorem cw_X9_9 {R : Room} {s : State} {args : Array Value} {rm : Room} {mc ms : Nat} (hts : ∀ w ∈ big, w.before args s = true) (hrc : rm.cells = mc) (hrs : rm.slots = ms) {D : va_G} {cI cZ : ClassId} (hK : KX D cI cZ s) (hR : rm.frames + 1 ≤ R.frames ∧ 8 + (1 + 11) + rm.locals ≤ R.locals) : va_CN R s args RX9 9 yX2_init "TwigsAndStones" cX2_init 1 none wyX2_init rm mc ms 0 ∧ yX2_init.name = "<init>" ∧ (Cond.instanceMethod yX2_init).before args s = true := ⟨va_cnB (own := RX9) (host := "TwigsAndStones") (index := 9) (y := yX2_init) 0 hts (big_code ok_X2_init) rfl hrc hrs (hK.2 ("TwigsAndStones", 9, yX2_init) (List.mem_of_getElem? (i := 2) rfl)) (hts (.initialized RX2) (in_r1 _ (List.mem_of_getElem? (i := 14) rfl))) (by decide +kernel) hR, rfl, (hts (.instanceMethod yX2_init) (in_r2 _ (List.mem_of_getElem? (i := 20) rfl)))⟩
theorem cw_X0_56 {R : Room} {s : State} {args : Array Value} {rm : Room} {mc ms : Nat} (hts : ∀ w ∈ big, w.before args s = true) (hrc : rm.cells = mc) (hrs : rm.slots = ms) {D : va_G} {cI cZ : ClassId} (hK : KX D cI cZ s) (hR : rm.frames + 1 ≤ R.frames ∧ 8 + (1 + 11) + rm.locals ≤ R.locals) : va_CN R s args RX0 56 yX9_bitOf "TwigsAndStones" cX9_bitOf 1 (some .int) wyX9_bitOf rm mc ms 1 ∧ (Cond.static yX9_bitOf).before args s = true ∧ True := ⟨va_cnB (own := RX0) (host := "TwigsAndStones") (index := 56) (y := yX9_bitOf) 1 hts (big_code ok_X9_bitOf) rfl hrc hrs (hK.2 (RX0, 56, yX9_bitOf) (List.mem_of_getElem? (i := 3) rfl)) (hts (.initialized RX9) (in_r1 _ (List.mem_of_getElem? (i := 2) rfl))) (by decide +kernel) hR, (hts (.static yX9_bitOf) (in_r10 _ (List.mem_of_getElem? (i := 7) rfl))), trivial⟩
theorem cw_X2_47 {R : Room} {s : State} {args : Array Value} {rm : Room} {mc ms : Nat} (hts : ∀ w ∈ big, w.before args s = true) (hrc : rm.cells = mc) (hrs : rm.slots = ms) {D : va_G} {cI cZ : ClassId} (hK : KX D cI cZ s) (hR : rm.frames + 1 ≤ R.frames ∧ 8 + (1 + 11) + rm.locals ≤ R.locals) : va_CN R s args RX2 47 yX9_bitOf "TwigsAndStones" cX9_bitOf 1 (some .int) wyX9_bitOf rm mc ms 1 ∧ (Cond.static yX9_bitOf).before args s = true ∧ True := ⟨va_cnB (own := RX2) (host := "TwigsAndStones") (index := 47) (y := yX9_bitOf) 1 hts (big_code ok_X9_bitOf) rfl hrc hrs (hK.2 (RX2, 47, yX9_bitOf) (List.mem_of_getElem? (i := 4) rfl)) (hts (.initialized RX9) (in_r1 _ (List.mem_of_getElem? (i := 2) rfl))) (by decide +kernel) hR, (hts (.static yX9_bitOf) (in_r10 _ (List.mem_of_getElem? (i := 7) rfl))), trivial⟩
theorem cw_X2_54 {R : Room} {s : State} {args : Array Value} {rm : Room} {mc ms : Nat} (hts : ∀ w ∈ big, w.before args s = true) (hrc : rm.cells = mc) (hrs : rm.slots = ms) {D : va_G} {cI cZ : ClassId} (hK : KX D cI cZ s) (hR : rm.frames + 1 ≤ R.frames ∧ 8 + (1 + 11) + rm.locals ≤ R.locals) : va_CN R s args RX2 54 yX9_isPlace "TwigsAndStones" cX9_isPlace 1 (some .boolean) wyX9_isPlace rm mc ms 1 ∧ (Cond.static yX9_isPlace).before args s = true ∧ True := ⟨va_cnB (own := RX2) (host := "TwigsAndStones") (index := 54) (y := yX9_isPlace) 1 hts (big_code ok_X9_isPlace) rfl hrc hrs (hK.2 (RX2, 54, yX9_isPlace) (List.mem_of_getElem? (i := 5) rfl)) (hts (.initialized RX9) (in_r1 _ (List.mem_of_getElem? (i := 2) rfl))) (by decide +kernel) hR, (hts (.static yX9_isPlace) (in_r8 _ (List.mem_of_getElem? (i := 14) rfl))), trivial⟩
theorem cw_X3_77 {R : Room} {s : State} {args : Array Value} {rm : Room} {mc ms : Nat} (hts : ∀ w ∈ big, w.before args s = true) (hrc : rm.cells = mc) (hrs : rm.slots = ms) {D : va_G} {cI cZ : ClassId} (hK : KX D cI cZ s) (hR : rm.frames + 1 ≤ R.frames ∧ 8 + (1 + 11) + rm.locals ≤ R.locals) : va_CN R s args RX3 77 yX9_bitOf "TwigsAndStones" cX9_bitOf 1 (some .int) wyX9_bitOf rm mc ms 1 ∧ (Cond.static yX9_bitOf).before args s = true ∧ True := ⟨va_cnB (own := RX3) (host := "TwigsAndStones") (index := 77) (y := yX9_bitOf) 1 hts (big_code ok_X9_bitOf) rfl hrc hrs (hK.2 (RX3, 77, yX9_bitOf) (List.mem_of_getElem? (i := 6) rfl)) (hts (.initialized RX9) (in_r1 _ (List.mem_of_getElem? (i := 2) rfl))) (by decide +kernel) hR, (hts (.static yX9_bitOf) (in_r10 _ (List.mem_of_getElem? (i := 7) rfl))), trivial⟩
theorem cw_X4_74 {R : Room} {s : State} {args : Array Value} {rm : Room} {mc ms : Nat} (hts : ∀ w ∈ big, w.before args s = true) (hrc : rm.cells = mc) (hrs : rm.slots = ms) {D : va_G} {cI cZ : ClassId} (hK : KX D cI cZ s) (hR : rm.frames + 1 ≤ R.frames ∧ 8 + (1 + 11) + rm.locals ≤ R.locals) : va_CN R s args RX4 74 yX9_bitOf "TwigsAndStones" cX9_bitOf 1 (some .int) wyX9_bitOf rm mc ms 1 ∧ (Cond.static yX9_bitOf).before args s = true ∧ True := ⟨va_cnB (own := RX4) (host := "TwigsAndStones") (index := 74) (y := yX9_bitOf) 1 hts (big_code ok_X9_bitOf) rfl hrc hrs (hK.2 (RX4, 74, yX9_bitOf) (List.mem_of_getElem? (i := 7) rfl)) (hts (.initialized RX9) (in_r1 _ (List.mem_of_getElem? (i := 2) rfl))) (by decide +kernel) hR, (hts (.static yX9_bitOf) (in_r10 _ (List.mem_of_getElem? (i := 7) rfl))), trivial⟩
theorem cw_X6_90 {R : Room} {s : State} {args : Array Value} {rm : Room} {mc ms : Nat} (hts : ∀ w ∈ big, w.before args s = true) (hrc : rm.cells = mc) (hrs : rm.slots = ms) {D : va_G} {cI cZ : ClassId} (hK : KX D cI cZ s) (hR : rm.frames + 1 ≤ R.frames ∧ 8 + (1 + 11) + rm.locals ≤ R.locals) : va_CN R s args RX6 90 yX9_bitOf "TwigsAndStones" cX9_bitOf 1 (some .int) wyX9_bitOf rm mc ms 1 ∧ (Cond.static yX9_bitOf).before args s = true ∧ True := ⟨va_cnB (own := RX6) (host := "TwigsAndStones") (index := 90) (y := yX9_bitOf) 1 hts (big_code ok_X9_bitOf) rfl hrc hrs (hK.2 (RX6, 90, yX9_bitOf) (List.mem_of_getElem? (i := 8) rfl)) (hts (.initialized RX9) (in_r1 _ (List.mem_of_getElem? (i := 2) rfl))) (by decide +kernel) hR, (hts (.static yX9_bitOf) (in_r10 _ (List.mem_of_getElem? (i := 7) rfl))), trivial⟩
theorem cw_X6_93 {R : Room} {s : State} {args : Array Value} {rm : Room} {mc ms : Nat} (hts : ∀ w ∈ big, w.before args s = true) (hrc : rm.cells = mc) (hrs : rm.slots = ms) {D : va_G} {cI cZ : ClassId} (hK : KX D cI cZ s) (hR : rm.frames + 1 ≤ R.frames ∧ 8 + (1 + 11) + rm.locals ≤ R.locals) : va_CN R s args RX6 93 yX9_isOfPath "TwigsAndStones" cX9_isOfPath 1 (some .boolean) wyX9_isOfPath rm mc ms 1 ∧ (Cond.static yX9_isOfPath).before args s = true ∧ True := ⟨va_cnB (own := RX6) (host := "TwigsAndStones") (index := 93) (y := yX9_isOfPath) 1 hts (big_code ok_X9_isOfPath) rfl hrc hrs (hK.2 (RX6, 93, yX9_isOfPath) (List.mem_of_getElem? (i := 9) rfl)) (hts (.initialized RX9) (in_r1 _ (List.mem_of_getElem? (i := 2) rfl))) (by decide +kernel) hR, (hts (.static yX9_isOfPath) (in_r13 _ (List.mem_of_getElem? (i := 11) rfl))), trivial⟩
theorem cw_X8_52 {R : Room} {s : State} {args : Array Value} {rm : Room} {mc ms : Nat} (hts : ∀ w ∈ big, w.before args s = true) (hrc : rm.cells = mc) (hrs : rm.slots = ms) {D : va_G} {cI cZ : ClassId} (hK : KX D cI cZ s) (hR : rm.frames + 1 ≤ R.frames ∧ 8 + (1 + 11) + rm.locals ≤ R.locals) : va_CN R s args RX8 52 yX9_bitOf "TwigsAndStones" cX9_bitOf 1 (some .int) wyX9_bitOf rm mc ms 1 ∧ (Cond.static yX9_bitOf).before args s = true ∧ True := ⟨va_cnB (own := RX8) (host := "TwigsAndStones") (index := 52) (y := yX9_bitOf) 1 hts (big_code ok_X9_bitOf) rfl hrc hrs (hK.2 (RX8, 52, yX9_bitOf) (List.mem_of_getElem? (i := 10) rfl)) (hts (.initialized RX9) (in_r1 _ (List.mem_of_getElem? (i := 2) rfl))) (by decide +kernel) hR, (hts (.static yX9_bitOf) (in_r10 _ (List.mem_of_getElem? (i := 7) rfl))), trivial⟩
theorem fl_X9_10 : Cond.fieldLink RX9 10 "TwigsAndStones" "net" "LTwigsAndStones$Net;" ∈ big := (in_r1 _ (List.mem_of_getElem? (i := 15) rfl))
theorem fl_X9_21 : Cond.fieldLink RX9 21 "TwigsAndStones" "signs" "LTwigsAndStones$Signs;" ∈ big := (in_r1 _ (List.mem_of_getElem? (i := 19) rfl))
theorem fl_X9_30 : Cond.fieldLink RX9 30 "TwigsAndStones" "walker" "LTwigsAndStones$Walker;" ∈ big := (in_r1 _ (List.mem_of_getElem? (i := 23) rfl))
theorem fl_X9_37 : Cond.fieldLink RX9 37 "TwigsAndStones" "notes" "LTwigsAndStones$Notes;" ∈ big := (in_r2 _ (List.mem_of_getElem? (i := 3) rfl))
theorem fl_X9_46 : Cond.fieldLink RX9 46 "TwigsAndStones" "theRoute" "LTwigsAndStones$Route;" ∈ big := (in_r2 _ (List.mem_of_getElem? (i := 7) rfl))
theorem fl_X9_55 : Cond.fieldLink RX9 55 "TwigsAndStones" "trails" "LTwigsAndStones$Trails;" ∈ big := (in_r2 _ (List.mem_of_getElem? (i := 11) rfl))
theorem fl_X9_62 : Cond.fieldLink RX9 62 "TwigsAndStones" "fork" "LTwigsAndStones$Fork;" ∈ big := (in_r2 _ (List.mem_of_getElem? (i := 15) rfl))
theorem fl_X9_69 : Cond.fieldLink RX9 69 "TwigsAndStones" "clubs" "LTwigsAndStones$Clubs;" ∈ big := (in_r2 _ (List.mem_of_getElem? (i := 19) rfl))
theorem fl_X2_14 : Cond.fieldLink RX2 14 "TwigsAndStones$Net" "firsts" "LTwigsAndStones$Row;" ∈ big := (in_r3 _ (List.mem_of_getElem? (i := 2) rfl))
theorem fl_X2_20 : Cond.fieldLink RX2 20 "TwigsAndStones$Net" "seconds" "LTwigsAndStones$Row;" ∈ big := (in_r3 _ (List.mem_of_getElem? (i := 3) rfl))
theorem fl_X2_23 : Cond.fieldLink RX2 23 "TwigsAndStones$Net" "lengths" "LTwigsAndStones$Row;" ∈ big := (in_r3 _ (List.mem_of_getElem? (i := 4) rfl))
theorem fl_X2_30 : Cond.fieldLink RX2 30 "TwigsAndStones$Net" "pathsByPlace" "LTwigsAndStones$Row;" ∈ big := (in_r3 _ (List.mem_of_getElem? (i := 5) rfl))
theorem fl_X5_9 : Cond.fieldLink RX5 9 "TwigsAndStones$Row" "cells" "[I" ∈ big := (in_r3 _ (List.mem_of_getElem? (i := 11) rfl))
theorem fl_X5_15 : Cond.fieldLink RX5 15 "TwigsAndStones$Row" "size" "I" ∈ big := (in_r3 _ (List.mem_of_getElem? (i := 16) rfl))
theorem fl_X6_16 : Cond.fieldLink RX6 16 "TwigsAndStones$Signs" "places" "LTwigsAndStones$Row;" ∈ big := (in_r3 _ (List.mem_of_getElem? (i := 22) rfl))
theorem fl_X6_20 : Cond.fieldLink RX6 20 "TwigsAndStones$Signs" "kinds" "LTwigsAndStones$Row;" ∈ big := (in_r3 _ (List.mem_of_getElem? (i := 23) rfl))
theorem fl_X6_23 : Cond.fieldLink RX6 23 "TwigsAndStones$Signs" "values" "LTwigsAndStones$Row;" ∈ big := (in_r4 _ (List.mem_of_getElem? (i := 0) rfl))
theorem fl_X6_26 : Cond.fieldLink RX6 26 "TwigsAndStones$Signs" "lives" "LTwigsAndStones$Row;" ∈ big := (in_r4 _ (List.mem_of_getElem? (i := 1) rfl))
theorem fl_X6_29 : Cond.fieldLink RX6 29 "TwigsAndStones$Signs" "laidOn" "LTwigsAndStones$Row;" ∈ big := (in_r4 _ (List.mem_of_getElem? (i := 2) rfl))
theorem fl_X6_32 : Cond.fieldLink RX6 32 "TwigsAndStones$Signs" "turned" "LTwigsAndStones$Row;" ∈ big := (in_r4 _ (List.mem_of_getElem? (i := 3) rfl))
theorem fl_X6_35 : Cond.fieldLink RX6 35 "TwigsAndStones$Signs" "seenBy" "LTwigsAndStones$Row;" ∈ big := (in_r4 _ (List.mem_of_getElem? (i := 4) rfl))
theorem fl_X6_38 : Cond.fieldLink RX6 38 "TwigsAndStones$Signs" "day" "I" ∈ big := (in_r4 _ (List.mem_of_getElem? (i := 5) rfl))
theorem fl_X6_42 : Cond.fieldLink RX6 42 "TwigsAndStones$Signs" "weatherNow" "I" ∈ big := (in_r4 _ (List.mem_of_getElem? (i := 6) rfl))
theorem fl_X6_45 : Cond.fieldLink RX6 45 "TwigsAndStones$Signs" "fog" "I" ∈ big := (in_r4 _ (List.mem_of_getElem? (i := 7) rfl))
theorem fl_X6_48 : Cond.fieldLink RX6 48 "TwigsAndStones$Signs" "net" "LTwigsAndStones$Net;" ∈ big := (in_r4 _ (List.mem_of_getElem? (i := 8) rfl))
theorem fl_X8_16 : Cond.fieldLink RX8 16 "TwigsAndStones$Walker" "places" "LTwigsAndStones$Row;" ∈ big := (in_r4 _ (List.mem_of_getElem? (i := 15) rfl))
theorem fl_X8_20 : Cond.fieldLink RX8 20 "TwigsAndStones$Walker" "ending" "I" ∈ big := (in_r4 _ (List.mem_of_getElem? (i := 16) rfl))
theorem fl_X8_24 : Cond.fieldLink RX8 24 "TwigsAndStones$Walker" "length" "I" ∈ big := (in_r4 _ (List.mem_of_getElem? (i := 17) rfl))
theorem fl_X8_27 : Cond.fieldLink RX8 27 "TwigsAndStones$Walker" "net" "LTwigsAndStones$Net;" ∈ big := (in_r4 _ (List.mem_of_getElem? (i := 18) rfl))
theorem fl_X8_31 : Cond.fieldLink RX8 31 "TwigsAndStones$Walker" "signs" "LTwigsAndStones$Signs;" ∈ big := (in_r4 _ (List.mem_of_getElem? (i := 19) rfl))
theorem fl_X3_16 : Cond.fieldLink RX3 16 "TwigsAndStones$Notes" "noted" "LTwigsAndStones$Row;" ∈ big := (in_r5 _ (List.mem_of_getElem? (i := 2) rfl))
theorem fl_X3_26 : Cond.fieldLink RX3 26 "TwigsAndStones$Notes" "waysByArc" "LTwigsAndStones$Row;" ∈ big := (in_r5 _ (List.mem_of_getElem? (i := 3) rfl))
theorem fl_X3_29 : Cond.fieldLink RX3 29 "TwigsAndStones$Notes" "net" "LTwigsAndStones$Net;" ∈ big := (in_r5 _ (List.mem_of_getElem? (i := 4) rfl))
theorem fl_X3_33 : Cond.fieldLink RX3 33 "TwigsAndStones$Notes" "signs" "LTwigsAndStones$Signs;" ∈ big := (in_r5 _ (List.mem_of_getElem? (i := 5) rfl))
theorem fl_X4_16 : Cond.fieldLink RX4 16 "TwigsAndStones$Route" "places" "LTwigsAndStones$Row;" ∈ big := (in_r5 _ (List.mem_of_getElem? (i := 13) rfl))
theorem fl_X4_20 : Cond.fieldLink RX4 20 "TwigsAndStones$Route" "leeway" "I" ∈ big := (in_r5 _ (List.mem_of_getElem? (i := 14) rfl))
theorem fl_X4_24 : Cond.fieldLink RX4 24 "TwigsAndStones$Route" "net" "LTwigsAndStones$Net;" ∈ big := (in_r5 _ (List.mem_of_getElem? (i := 15) rfl))
theorem fl_X4_28 : Cond.fieldLink RX4 28 "TwigsAndStones$Route" "walker" "LTwigsAndStones$Walker;" ∈ big := (in_r5 _ (List.mem_of_getElem? (i := 16) rfl))
theorem fl_X7_20 : Cond.fieldLink RX7 20 "TwigsAndStones$Trails" "places" "LTwigsAndStones$Row;" ∈ big := (in_r5 _ (List.mem_of_getElem? (i := 23) rfl))
theorem fl_X7_24 : Cond.fieldLink RX7 24 "TwigsAndStones$Trails" "sizes" "LTwigsAndStones$Row;" ∈ big := (in_r6 _ (List.mem_of_getElem? (i := 0) rfl))
theorem fl_X7_27 : Cond.fieldLink RX7 27 "TwigsAndStones$Trails" "falseOnes" "LTwigsAndStones$Row;" ∈ big := (in_r6 _ (List.mem_of_getElem? (i := 1) rfl))
theorem fl_X7_30 : Cond.fieldLink RX7 30 "TwigsAndStones$Trails" "reach" "I" ∈ big := (in_r6 _ (List.mem_of_getElem? (i := 2) rfl))
theorem fl_X7_34 : Cond.fieldLink RX7 34 "TwigsAndStones$Trails" "net" "LTwigsAndStones$Net;" ∈ big := (in_r6 _ (List.mem_of_getElem? (i := 3) rfl))
theorem fl_X7_38 : Cond.fieldLink RX7 38 "TwigsAndStones$Trails" "ofGame" "LTwigsAndStones$Route;" ∈ big := (in_r6 _ (List.mem_of_getElem? (i := 4) rfl))
theorem fl_X1_14 : Cond.fieldLink RX1 14 "TwigsAndStones$Fork" "lengths" "LTwigsAndStones$Row;" ∈ big := (in_r6 _ (List.mem_of_getElem? (i := 11) rfl))
theorem fl_X1_22 : Cond.fieldLink RX1 22 "TwigsAndStones$Fork" "tried" "LTwigsAndStones$Row;" ∈ big := (in_r6 _ (List.mem_of_getElem? (i := 12) rfl))
theorem fl_X1_25 : Cond.fieldLink RX1 25 "TwigsAndStones$Fork" "best" "LTwigsAndStones$Row;" ∈ big := (in_r6 _ (List.mem_of_getElem? (i := 13) rfl))
theorem fl_X0_20 : Cond.fieldLink RX0 20 "TwigsAndStones$Clubs" "pathsByClub" "LTwigsAndStones$Row;" ∈ big := (in_r6 _ (List.mem_of_getElem? (i := 20) rfl))
theorem fl_X0_24 : Cond.fieldLink RX0 24 "TwigsAndStones$Clubs" "toldClubs" "LTwigsAndStones$Row;" ∈ big := (in_r6 _ (List.mem_of_getElem? (i := 21) rfl))
theorem fl_X0_27 : Cond.fieldLink RX0 27 "TwigsAndStones$Clubs" "toldHues" "LTwigsAndStones$Row;" ∈ big := (in_r6 _ (List.mem_of_getElem? (i := 22) rfl))
theorem fl_X0_30 : Cond.fieldLink RX0 30 "TwigsAndStones$Clubs" "toldDays" "LTwigsAndStones$Row;" ∈ big := (in_r6 _ (List.mem_of_getElem? (i := 23) rfl))
theorem fl_X10_7 : Cond.fieldLink RX10 7 "TwigsAndStonesModel" "endA" "[I" ∈ big := (in_r7 _ (List.mem_of_getElem? (i := 6) rfl))
theorem fl_X10_13 : Cond.fieldLink RX10 13 "TwigsAndStonesModel" "endB" "[I" ∈ big := (in_r7 _ (List.mem_of_getElem? (i := 7) rfl))
theorem fl_X10_16 : Cond.fieldLink RX10 16 "TwigsAndStonesModel" "lengthOf" "[I" ∈ big := (in_r7 _ (List.mem_of_getElem? (i := 8) rfl))
theorem fl_X10_19 : Cond.fieldLink RX10 19 "TwigsAndStonesModel" "place" "[I" ∈ big := (in_r7 _ (List.mem_of_getElem? (i := 9) rfl))
theorem fl_X10_22 : Cond.fieldLink RX10 22 "TwigsAndStonesModel" "kind" "[I" ∈ big := (in_r7 _ (List.mem_of_getElem? (i := 10) rfl))
theorem fl_X10_25 : Cond.fieldLink RX10 25 "TwigsAndStonesModel" "value" "[I" ∈ big := (in_r7 _ (List.mem_of_getElem? (i := 11) rfl))
theorem fl_X10_28 : Cond.fieldLink RX10 28 "TwigsAndStonesModel" "life" "[I" ∈ big := (in_r7 _ (List.mem_of_getElem? (i := 12) rfl))
theorem fl_X10_31 : Cond.fieldLink RX10 31 "TwigsAndStonesModel" "laid" "[I" ∈ big := (in_r7 _ (List.mem_of_getElem? (i := 13) rfl))
theorem fl_X10_34 : Cond.fieldLink RX10 34 "TwigsAndStonesModel" "by" "[I" ∈ big := (in_r7 _ (List.mem_of_getElem? (i := 14) rfl))
theorem fl_X10_37 : Cond.fieldLink RX10 37 "TwigsAndStonesModel" "atStart" "[Z" ∈ big := (in_r7 _ (List.mem_of_getElem? (i := 16) rfl))
theorem fl_X10_41 : Cond.fieldLink RX10 41 "TwigsAndStonesModel" "isTurned" "[Z" ∈ big := (in_r7 _ (List.mem_of_getElem? (i := 17) rfl))
theorem fl_X10_44 : Cond.fieldLink RX10 44 "TwigsAndStonesModel" "reach" "I" ∈ big := (in_r7 _ (List.mem_of_getElem? (i := 18) rfl))
theorem fl_X10_48 : Cond.fieldLink RX10 48 "TwigsAndStonesModel" "walkAt" "[I" ∈ big := (in_r7 _ (List.mem_of_getElem? (i := 19) rfl))
theorem fl_X10_51 : Cond.fieldLink RX10 51 "TwigsAndStonesModel" "came" "[Z" ∈ big := (in_r7 _ (List.mem_of_getElem? (i := 20) rfl))
theorem fl_X10_54 : Cond.fieldLink RX10 54 "TwigsAndStonesModel" "note" "[I" ∈ big := (in_r7 _ (List.mem_of_getElem? (i := 21) rfl))
theorem fl_X10_57 : Cond.fieldLink RX10 57 "TwigsAndStonesModel" "goesOn" "[I" ∈ big := (in_r7 _ (List.mem_of_getElem? (i := 22) rfl))
theorem fl_X10_60 : Cond.fieldLink RX10 60 "TwigsAndStonesModel" "route" "[I" ∈ big := (in_r7 _ (List.mem_of_getElem? (i := 23) rfl))
theorem fl_X10_63 : Cond.fieldLink RX10 63 "TwigsAndStonesModel" "trailMany" "[I" ∈ big := (in_r8 _ (List.mem_of_getElem? (i := 0) rfl))
theorem fl_X10_66 : Cond.fieldLink RX10 66 "TwigsAndStonesModel" "trail" "[I" ∈ big := (in_r8 _ (List.mem_of_getElem? (i := 1) rfl))
theorem fl_X10_69 : Cond.fieldLink RX10 69 "TwigsAndStonesModel" "isFalse" "[Z" ∈ big := (in_r8 _ (List.mem_of_getElem? (i := 2) rfl))
theorem fl_X10_72 : Cond.fieldLink RX10 72 "TwigsAndStonesModel" "branch" "[I" ∈ big := (in_r8 _ (List.mem_of_getElem? (i := 3) rfl))
theorem fl_X10_75 : Cond.fieldLink RX10 75 "TwigsAndStonesModel" "bestHound" "[I" ∈ big := (in_r8 _ (List.mem_of_getElem? (i := 4) rfl))
theorem fl_X10_78 : Cond.fieldLink RX10 78 "TwigsAndStonesModel" "clubPaths" "[I" ∈ big := (in_r8 _ (List.mem_of_getElem? (i := 5) rfl))
theorem fl_X10_81 : Cond.fieldLink RX10 81 "TwigsAndStonesModel" "colourClub" "[I" ∈ big := (in_r8 _ (List.mem_of_getElem? (i := 6) rfl))
theorem fl_X10_84 : Cond.fieldLink RX10 84 "TwigsAndStonesModel" "colourOf" "[I" ∈ big := (in_r8 _ (List.mem_of_getElem? (i := 7) rfl))
theorem fl_X10_87 : Cond.fieldLink RX10 87 "TwigsAndStonesModel" "colourDay" "[I" ∈ big := (in_r8 _ (List.mem_of_getElem? (i := 8) rfl))
theorem fl_X10_94 : Cond.fieldLink RX10 94 "TwigsAndStonesModel" "paths" "I" ∈ big := (in_r10 _ (List.mem_of_getElem? (i := 17) rfl))
theorem fl_X10_109 : Cond.fieldLink RX10 109 "TwigsAndStonesModel" "weather" "I" ∈ big := (in_r11 _ (List.mem_of_getElem? (i := 20) rfl))
theorem fl_X10_112 : Cond.fieldLink RX10 112 "TwigsAndStonesModel" "day" "I" ∈ big := (in_r13 _ (List.mem_of_getElem? (i := 4) rfl))
theorem fl_X10_115 : Cond.fieldLink RX10 115 "TwigsAndStonesModel" "signs" "I" ∈ big := (in_r13 _ (List.mem_of_getElem? (i := 5) rfl))
theorem fl_X10_122 : Cond.fieldLink RX10 122 "TwigsAndStonesModel" "fog" "I" ∈ big := (in_r17 _ (List.mem_of_getElem? (i := 2) rfl))
theorem fl_X10_125 : Cond.fieldLink RX10 125 "TwigsAndStonesModel" "leeway" "I" ∈ big := (in_r17 _ (List.mem_of_getElem? (i := 3) rfl))
theorem fl_X10_137 : Cond.fieldLink RX10 137 "TwigsAndStonesModel" "walkEnds" "I" ∈ big := (in_r20 _ (List.mem_of_getElem? (i := 3) rfl))
theorem fl_X10_131 : Cond.fieldLink RX10 131 "TwigsAndStonesModel" "walkPaths" "I" ∈ big := (in_r20 _ (List.mem_of_getElem? (i := 4) rfl))
theorem fl_X10_134 : Cond.fieldLink RX10 134 "TwigsAndStonesModel" "walkLength" "I" ∈ big := (in_r20 _ (List.mem_of_getElem? (i := 5) rfl))
theorem fl_X10_150 : Cond.fieldLink RX10 150 "TwigsAndStonesModel" "notes" "I" ∈ big := (in_r22 _ (List.mem_of_getElem? (i := 0) rfl))
theorem fl_X10_162 : Cond.fieldLink RX10 162 "TwigsAndStonesModel" "routes" "I" ∈ big := (in_r26 _ (List.mem_of_getElem? (i := 21) rfl))
theorem fl_X10_171 : Cond.fieldLink RX10 171 "TwigsAndStonesModel" "trails" "I" ∈ big := (in_r30 _ (List.mem_of_getElem? (i := 1) rfl))
theorem fl_X10_180 : Cond.fieldLink RX10 180 "TwigsAndStonesModel" "branches" "I" ∈ big := (in_r33 _ (List.mem_of_getElem? (i := 9) rfl))
theorem fl_X10_187 : Cond.fieldLink RX10 187 "TwigsAndStonesModel" "bestWorst" "I" ∈ big := (in_r35 _ (List.mem_of_getElem? (i := 3) rfl))
theorem fl_X10_196 : Cond.fieldLink RX10 196 "TwigsAndStonesModel" "colours" "I" ∈ big := (in_r38 _ (List.mem_of_getElem? (i := 4) rfl))
theorem kx_classLink_RL_10_RX10 : Cond.classLink RL 10 RX10 ∈ big := (in_r1 _ (List.mem_of_getElem? (i := 3) rfl))
theorem kx_classLink_RL_7_RX9 : Cond.classLink RL 7 RX9 ∈ big := (in_r1 _ (List.mem_of_getElem? (i := 0) rfl))
theorem kx_classLink_RX0_9_RX5 : Cond.classLink RX0 9 RX5 ∈ big := (in_r6 _ (List.mem_of_getElem? (i := 19) rfl))
theorem kx_classLink_RX1_7_RX5 : Cond.classLink RX1 7 RX5 ∈ big := (in_r6 _ (List.mem_of_getElem? (i := 10) rfl))
theorem kx_classLink_RX2_9_RX5 : Cond.classLink RX2 9 RX5 ∈ big := (in_r2 _ (List.mem_of_getElem? (i := 23) rfl))
theorem kx_classLink_RX3_9_RX5 : Cond.classLink RX3 9 RX5 ∈ big := (in_r5 _ (List.mem_of_getElem? (i := 1) rfl))
theorem kx_classLink_RX4_9_RX5 : Cond.classLink RX4 9 RX5 ∈ big := (in_r5 _ (List.mem_of_getElem? (i := 12) rfl))
theorem kx_classLink_RX6_9_RX5 : Cond.classLink RX6 9 RX5 ∈ big := (in_r3 _ (List.mem_of_getElem? (i := 21) rfl))
theorem kx_classLink_RX7_9_RX5 : Cond.classLink RX7 9 RX5 ∈ big := (in_r5 _ (List.mem_of_getElem? (i := 22) rfl))
theorem kx_classLink_RX8_9_RX5 : Cond.classLink RX8 9 RX5 ∈ big := (in_r4 _ (List.mem_of_getElem? (i := 14) rfl))
theorem kx_classLink_RX9_16_RX6 : Cond.classLink RX9 16 RX6 ∈ big := (in_r1 _ (List.mem_of_getElem? (i := 16) rfl))
theorem kx_classLink_RX9_25_RX8 : Cond.classLink RX9 25 RX8 ∈ big := (in_r1 _ (List.mem_of_getElem? (i := 20) rfl))
theorem kx_classLink_RX9_34_RX3 : Cond.classLink RX9 34 RX3 ∈ big := (in_r2 _ (List.mem_of_getElem? (i := 0) rfl))
theorem kx_classLink_RX9_41_RX4 : Cond.classLink RX9 41 RX4 ∈ big := (in_r2 _ (List.mem_of_getElem? (i := 4) rfl))
theorem kx_classLink_RX9_50_RX7 : Cond.classLink RX9 50 RX7 ∈ big := (in_r2 _ (List.mem_of_getElem? (i := 8) rfl))
theorem kx_classLink_RX9_59_RX1 : Cond.classLink RX9 59 RX1 ∈ big := (in_r2 _ (List.mem_of_getElem? (i := 12) rfl))
theorem kx_classLink_RX9_66_RX0 : Cond.classLink RX9 66 RX0 ∈ big := (in_r2 _ (List.mem_of_getElem? (i := 16) rfl))
theorem kx_classLink_RX9_7_RX2 : Cond.classLink RX9 7 RX2 ∈ big := (in_r1 _ (List.mem_of_getElem? (i := 12) rfl))
theorem kc_J6_265 : Cond.constant RJ6 265 (1431655765) ∈ big := (in_r9 _ (List.mem_of_getElem? (i := 11) rfl))
theorem kc_J6_266 : Cond.constant RJ6 266 (858993459) ∈ big := (in_r9 _ (List.mem_of_getElem? (i := 12) rfl))
theorem kc_J6_267 : Cond.constant RJ6 267 (252645135) ∈ big := (in_r9 _ (List.mem_of_getElem? (i := 13) rfl))
theorem kc_X6_79 : Cond.constant RX6 79 (65536) ∈ big := (in_r14 _ (List.mem_of_getElem? (i := 5) rfl))
theorem kx_initialized_RJ6 : Cond.initialized RJ6 ∈ big := (in_r9 _ (List.mem_of_getElem? (i := 9) rfl))
theorem kx_initialized_RX0 : Cond.initialized RX0 ∈ big := (in_r2 _ (List.mem_of_getElem? (i := 18) rfl))
theorem kx_initialized_RX1 : Cond.initialized RX1 ∈ big := (in_r2 _ (List.mem_of_getElem? (i := 14) rfl))
theorem kx_initialized_RX10 : Cond.initialized RX10 ∈ big := (in_r1 _ (List.mem_of_getElem? (i := 5) rfl))
theorem kx_initialized_RX2 : Cond.initialized RX2 ∈ big := (in_r1 _ (List.mem_of_getElem? (i := 14) rfl))
theorem kx_initialized_RX3 : Cond.initialized RX3 ∈ big := (in_r2 _ (List.mem_of_getElem? (i := 2) rfl))
theorem kx_initialized_RX4 : Cond.initialized RX4 ∈ big := (in_r2 _ (List.mem_of_getElem? (i := 6) rfl))
theorem kx_initialized_RX5 : Cond.initialized RX5 ∈ big := (in_r3 _ (List.mem_of_getElem? (i := 1) rfl))
theorem kx_initialized_RX6 : Cond.initialized RX6 ∈ big := (in_r1 _ (List.mem_of_getElem? (i := 18) rfl))
theorem kx_initialized_RX7 : Cond.initialized RX7 ∈ big := (in_r2 _ (List.mem_of_getElem? (i := 10) rfl))
theorem kx_initialized_RX8 : Cond.initialized RX8 ∈ big := (in_r1 _ (List.mem_of_getElem? (i := 22) rfl))
theorem kx_initialized_RX9 : Cond.initialized RX9 ∈ big := (in_r1 _ (List.mem_of_getElem? (i := 2) rfl))
theorem kx_instantiable_RX0_4 : Cond.instantiable RX0 4 ∈ big := (in_r2 _ (List.mem_of_getElem? (i := 17) rfl))
theorem kx_instantiable_RX1_3 : Cond.instantiable RX1 3 ∈ big := (in_r2 _ (List.mem_of_getElem? (i := 13) rfl))
theorem kx_instantiable_RX10_41 : Cond.instantiable RX10 41 ∈ big := (in_r1 _ (List.mem_of_getElem? (i := 4) rfl))
theorem kx_instantiable_RX2_4 : Cond.instantiable RX2 4 ∈ big := (in_r1 _ (List.mem_of_getElem? (i := 13) rfl))
theorem kx_instantiable_RX3_4 : Cond.instantiable RX3 4 ∈ big := (in_r2 _ (List.mem_of_getElem? (i := 1) rfl))
theorem kx_instantiable_RX4_4 : Cond.instantiable RX4 4 ∈ big := (in_r2 _ (List.mem_of_getElem? (i := 5) rfl))
theorem kx_instantiable_RX5_2 : Cond.instantiable RX5 2 ∈ big := (in_r3 _ (List.mem_of_getElem? (i := 0) rfl))
theorem kx_instantiable_RX6_11 : Cond.instantiable RX6 11 ∈ big := (in_r1 _ (List.mem_of_getElem? (i := 17) rfl))
theorem kx_instantiable_RX7_6 : Cond.instantiable RX7 6 ∈ big := (in_r2 _ (List.mem_of_getElem? (i := 9) rfl))
theorem kx_instantiable_RX8_5 : Cond.instantiable RX8 5 ∈ big := (in_r1 _ (List.mem_of_getElem? (i := 21) rfl))
theorem kx_instantiable_RX9_8 : Cond.instantiable RX9 8 ∈ big := (in_r1 _ (List.mem_of_getElem? (i := 1) rfl))
theorem kx_arrI : Cond.arrayClass .int ∈ big := (in_r3 _ (List.mem_of_getElem? (i := 10) rfl))
theorem kx_arrZ : Cond.arrayClass .boolean ∈ big := (in_r7 _ (List.mem_of_getElem? (i := 15) rfl))
theorem kx_oi : Cond.instanceMethod objectInit ∈ big := (in_r1 _ (List.mem_of_getElem? (i := 10) rfl))
theorem kx_oc : Cond.code objectInit ⟨#[0xb1]⟩ 1 none ∈ big := (in_r1 _ (List.mem_of_getElem? (i := 11) rfl))
theorem kx_ms : Cond.static Lib.Math.max.name ∈ big := (in_r12 _ (List.mem_of_getElem? (i := 10) rfl))
theorem kx_mi : Cond.initialized "java/lang/Math" ∈ big := (in_r12 _ (List.mem_of_getElem? (i := 11) rfl))
theorem kx_mc : Cond.code Lib.Math.max.name Lib.Math.max.code 2 (some .int) ∈ big := (in_r12 _ (List.mem_of_getElem? (i := 12) rfl))
theorem ml_X0_3 : Cond.methodLink RX0 3 objectInit ∈ big := (in_r6 _ (List.mem_of_getElem? (i := 18) rfl))
theorem ml_X1_1 : Cond.methodLink RX1 1 objectInit ∈ big := (in_r6 _ (List.mem_of_getElem? (i := 9) rfl))
theorem ml_X1_59 : Cond.methodLink RX1 59 Lib.Math.max.name ∈ big := (in_r34 _ (List.mem_of_getElem? (i := 13) rfl))
theorem ml_X10_1 : Cond.methodLink RX10 1 objectInit ∈ big := (in_r7 _ (List.mem_of_getElem? (i := 5) rfl))
theorem ml_X2_3 : Cond.methodLink RX2 3 objectInit ∈ big := (in_r2 _ (List.mem_of_getElem? (i := 22) rfl))
theorem ml_X3_3 : Cond.methodLink RX3 3 objectInit ∈ big := (in_r5 _ (List.mem_of_getElem? (i := 0) rfl))
theorem ml_X4_3 : Cond.methodLink RX4 3 objectInit ∈ big := (in_r5 _ (List.mem_of_getElem? (i := 11) rfl))
theorem ml_X5_3 : Cond.methodLink RX5 3 objectInit ∈ big := (in_r3 _ (List.mem_of_getElem? (i := 9) rfl))
theorem ml_X6_3 : Cond.methodLink RX6 3 objectInit ∈ big := (in_r3 _ (List.mem_of_getElem? (i := 20) rfl))
theorem ml_X6_66 : Cond.methodLink RX6 66 Lib.Math.max.name ∈ big := (in_r12 _ (List.mem_of_getElem? (i := 9) rfl))
theorem ml_X7_3 : Cond.methodLink RX7 3 objectInit ∈ big := (in_r5 _ (List.mem_of_getElem? (i := 21) rfl))
theorem ml_X8_3 : Cond.methodLink RX8 3 objectInit ∈ big := (in_r4 _ (List.mem_of_getElem? (i := 13) rfl))
theorem ml_X9_1 : Cond.methodLink RX9 1 objectInit ∈ big := (in_r1 _ (List.mem_of_getElem? (i := 9) rfl))
theorem hin0 : ∀ w ∈ u_ws RX0 TX0 4, w ∈ big := inlX0
theorem hin1 : ∀ w ∈ u_ws RX1 TX1 3, w ∈ big := inlX1
theorem hin2 : ∀ w ∈ u_ws RX2 TX2 4, w ∈ big := inlX2
theorem hin3 : ∀ w ∈ u_ws RX3 TX3 4, w ∈ big := inlX3
theorem hin4 : ∀ w ∈ u_ws RX4 TX4 4, w ∈ big := inlX4
theorem hin5 : ∀ w ∈ u_ws RX5 TX5 2, w ∈ big := inlX5
theorem hin6 : ∀ w ∈ u_ws RX6 TX6 11, w ∈ big := inlX6
theorem hin7 : ∀ w ∈ u_ws RX7 TX7 6, w ∈ big := inlX7
theorem hin8 : ∀ w ∈ u_ws RX8 TX8 5, w ∈ big := inlX8
theorem hin9 : ∀ w ∈ u_ws RX9 TX9 8, w ∈ big := inlX9
theorem hin10 : ∀ w ∈ u_ws RX10 TX10 41, w ∈ big := inlX10
end
section
theorem zz_last : True := trivial
end
