section
-- ===== PART A: goes FIRST, ahead of the names: the tables' words, and 'selects' of the private methods out of them =====
/-- a private method of a class that the tables say can be made, by its rows of tables_1 -/
def lw_okq (q : MethodName × Nat) : Prop := (q.1.cls ≠ "java/lang/invoke/MethodHandle" ∧ q.1.cls ≠ "java/lang/invoke/VarHandle") ∧ Cond.instantiable q.1.cls q.2 ∈ tables_1 ∧ Cond.privateMethod q.1 ∈ tables_1 ∧ Cond.instanceMethod q.1 ∈ tables_1
theorem lw_p0 : lw_okq (⟨"SpeltByFriends$Page", "fits", "(I)Z"⟩, 2) := ⟨⟨by decide +kernel, by decide +kernel⟩, List.mem_of_getElem? (i := 30) (by decide +kernel), List.mem_of_getElem? (i := 286) (by decide +kernel), List.mem_of_getElem? (i := 287) (by decide +kernel)⟩
theorem lw_p1 : lw_okq (⟨"SpeltByFriends$Page", "isWhole", "()Z"⟩, 2) := ⟨⟨by decide +kernel, by decide +kernel⟩, List.mem_of_getElem? (i := 30) (by decide +kernel), List.mem_of_getElem? (i := 388) (by decide +kernel), List.mem_of_getElem? (i := 389) (by decide +kernel)⟩
theorem lw_p2 : lw_okq (⟨"SpeltByFriends$Page", "firstNobody", "()I"⟩, 2) := ⟨⟨by decide +kernel, by decide +kernel⟩, List.mem_of_getElem? (i := 30) (by decide +kernel), List.mem_of_getElem? (i := 392) (by decide +kernel), List.mem_of_getElem? (i := 393) (by decide +kernel)⟩
theorem lw_p3 : lw_okq (⟨"SpeltByFriends", "tellAbout", "(II)I"⟩, 10) := ⟨⟨by decide +kernel, by decide +kernel⟩, List.mem_of_getElem? (i := 22) (by decide +kernel), List.mem_of_getElem? (i := 432) (by decide +kernel), List.mem_of_getElem? (i := 433) (by decide +kernel)⟩
theorem lw_p4 : lw_okq (⟨"SpeltByFriends$Plans", "whoIsWritten", "(LSpeltByFriends$Town;I)I"⟩, 4) := ⟨⟨by decide +kernel, by decide +kernel⟩, List.mem_of_getElem? (i := 172) (by decide +kernel), List.mem_of_getElem? (i := 565) (by decide +kernel), List.mem_of_getElem? (i := 566) (by decide +kernel)⟩
theorem lw_p5 : lw_okq (⟨"SpeltByFriends$Plans", "cover", "(IIII)Z"⟩, 4) := ⟨⟨by decide +kernel, by decide +kernel⟩, List.mem_of_getElem? (i := 172) (by decide +kernel), List.mem_of_getElem? (i := 570) (by decide +kernel), List.mem_of_getElem? (i := 571) (by decide +kernel)⟩
theorem lw_p6 : lw_okq (⟨"SpeltByFriends$Guesses", "agrees", "(LSpeltByFriends$Town;II)Z"⟩, 4) := ⟨⟨by decide +kernel, by decide +kernel⟩, List.mem_of_getElem? (i := 193) (by decide +kernel), List.mem_of_getElem? (i := 595) (by decide +kernel), List.mem_of_getElem? (i := 596) (by decide +kernel)⟩
theorem lw_p7 : lw_okq (⟨"SpeltByFriends$Guesses", "leftAtWorst", "(LSpeltByFriends$Town;I)I"⟩, 4) := ⟨⟨by decide +kernel, by decide +kernel⟩, List.mem_of_getElem? (i := 193) (by decide +kernel), List.mem_of_getElem? (i := 615) (by decide +kernel), List.mem_of_getElem? (i := 616) (by decide +kernel)⟩
theorem lw_p8 : lw_okq (⟨"SpeltByFriends$Lottery", "draw", "(I)I"⟩, 3) := ⟨⟨by decide +kernel, by decide +kernel⟩, List.mem_of_getElem? (i := 213) (by decide +kernel), List.mem_of_getElem? (i := 628) (by decide +kernel), List.mem_of_getElem? (i := 629) (by decide +kernel)⟩
theorem lw_p9 : lw_okq (⟨"SpeltByFriendsModel", "faultNow", "()I"⟩, 31) := ⟨⟨by decide +kernel, by decide +kernel⟩, List.mem_of_getElem? (i := 670) (by decide +kernel), List.mem_of_getElem? (i := 785) (by decide +kernel), List.mem_of_getElem? (i := 786) (by decide +kernel)⟩
theorem lw_p10 : lw_okq (⟨"SpeltByFriendsModel", "isGood", "(I)Z"⟩, 31) := ⟨⟨by decide +kernel, by decide +kernel⟩, List.mem_of_getElem? (i := 670) (by decide +kernel), List.mem_of_getElem? (i := 789) (by decide +kernel), List.mem_of_getElem? (i := 790) (by decide +kernel)⟩
theorem lw_p11 : lw_okq (⟨"SpeltByFriendsModel", "isWhole", "()Z"⟩, 31) := ⟨⟨by decide +kernel, by decide +kernel⟩, List.mem_of_getElem? (i := 670) (by decide +kernel), List.mem_of_getElem? (i := 796) (by decide +kernel), List.mem_of_getElem? (i := 797) (by decide +kernel)⟩
theorem lw_p12 : lw_okq (⟨"SpeltByFriendsModel", "isOne", "(I)Z"⟩, 31) := ⟨⟨by decide +kernel, by decide +kernel⟩, List.mem_of_getElem? (i := 670) (by decide +kernel), List.mem_of_getElem? (i := 808) (by decide +kernel), List.mem_of_getElem? (i := 809) (by decide +kernel)⟩
theorem lw_p13 : lw_okq (⟨"SpeltByFriendsModel", "oneNow", "(II)I"⟩, 31) := ⟨⟨by decide +kernel, by decide +kernel⟩, List.mem_of_getElem? (i := 670) (by decide +kernel), List.mem_of_getElem? (i := 812) (by decide +kernel), List.mem_of_getElem? (i := 813) (by decide +kernel)⟩
theorem lw_p14 : lw_okq (⟨"SpeltByFriendsModel", "isWrittenNow", "(I)Z"⟩, 31) := ⟨⟨by decide +kernel, by decide +kernel⟩, List.mem_of_getElem? (i := 670) (by decide +kernel), List.mem_of_getElem? (i := 816) (by decide +kernel), List.mem_of_getElem? (i := 817) (by decide +kernel)⟩
theorem lw_p15 : lw_okq (⟨"SpeltByFriendsModel", "companyOf", "(I)I"⟩, 31) := ⟨⟨by decide +kernel, by decide +kernel⟩, List.mem_of_getElem? (i := 670) (by decide +kernel), List.mem_of_getElem? (i := 820) (by decide +kernel), List.mem_of_getElem? (i := 821) (by decide +kernel)⟩
def lw_privs_1 : List (MethodName × Nat) := [(⟨"SpeltByFriends$Page", "fits", "(I)Z"⟩, 2), (⟨"SpeltByFriends$Page", "isWhole", "()Z"⟩, 2), (⟨"SpeltByFriends$Page", "firstNobody", "()I"⟩, 2), (⟨"SpeltByFriends", "tellAbout", "(II)I"⟩, 10), (⟨"SpeltByFriends$Plans", "whoIsWritten", "(LSpeltByFriends$Town;I)I"⟩, 4), (⟨"SpeltByFriends$Plans", "cover", "(IIII)Z"⟩, 4), (⟨"SpeltByFriends$Guesses", "agrees", "(LSpeltByFriends$Town;II)Z"⟩, 4), (⟨"SpeltByFriends$Guesses", "leftAtWorst", "(LSpeltByFriends$Town;I)I"⟩, 4), (⟨"SpeltByFriends$Lottery", "draw", "(I)I"⟩, 3), (⟨"SpeltByFriendsModel", "faultNow", "()I"⟩, 31), (⟨"SpeltByFriendsModel", "isGood", "(I)Z"⟩, 31), (⟨"SpeltByFriendsModel", "isWhole", "()Z"⟩, 31), (⟨"SpeltByFriendsModel", "isOne", "(I)Z"⟩, 31), (⟨"SpeltByFriendsModel", "oneNow", "(II)I"⟩, 31), (⟨"SpeltByFriendsModel", "isWrittenNow", "(I)Z"⟩, 31), (⟨"SpeltByFriendsModel", "companyOf", "(I)I"⟩, 31)]
theorem lw_r1 : ∀ q ∈ lw_privs_1, lw_okq q := List.forall_mem_cons.mpr ⟨lw_p0, List.forall_mem_cons.mpr ⟨lw_p1, List.forall_mem_cons.mpr ⟨lw_p2, List.forall_mem_cons.mpr ⟨lw_p3, List.forall_mem_cons.mpr ⟨lw_p4, List.forall_mem_cons.mpr ⟨lw_p5, List.forall_mem_cons.mpr ⟨lw_p6, List.forall_mem_cons.mpr ⟨lw_p7, List.forall_mem_cons.mpr ⟨lw_p8, List.forall_mem_cons.mpr ⟨lw_p9, List.forall_mem_cons.mpr ⟨lw_p10, List.forall_mem_cons.mpr ⟨lw_p11, List.forall_mem_cons.mpr ⟨lw_p12, List.forall_mem_cons.mpr ⟨lw_p13, List.forall_mem_cons.mpr ⟨lw_p14, List.forall_mem_cons.mpr ⟨lw_p15, fun _ h => absurd h List.not_mem_nil⟩⟩⟩⟩⟩⟩⟩⟩⟩⟩⟩⟩⟩⟩⟩⟩
theorem lw_p16 : lw_okq (⟨"SpeltByFriendsModel", "isWritten", "(II)Z"⟩, 31) := ⟨⟨by decide +kernel, by decide +kernel⟩, List.mem_of_getElem? (i := 670) (by decide +kernel), List.mem_of_getElem? (i := 824) (by decide +kernel), List.mem_of_getElem? (i := 825) (by decide +kernel)⟩
theorem lw_p17 : lw_okq (⟨"SpeltByFriendsModel", "isWrittenBy", "(IIII)Z"⟩, 31) := ⟨⟨by decide +kernel, by decide +kernel⟩, List.mem_of_getElem? (i := 670) (by decide +kernel), List.mem_of_getElem? (i := 828) (by decide +kernel), List.mem_of_getElem? (i := 829) (by decide +kernel)⟩
theorem lw_p18 : lw_okq (⟨"SpeltByFriendsModel", "isThere", "(III)Z"⟩, 31) := ⟨⟨by decide +kernel, by decide +kernel⟩, List.mem_of_getElem? (i := 670) (by decide +kernel), List.mem_of_getElem? (i := 832) (by decide +kernel), List.mem_of_getElem? (i := 833) (by decide +kernel)⟩
theorem lw_p19 : lw_okq (⟨"SpeltByFriendsModel", "lettersOf", "(I)I"⟩, 31) := ⟨⟨by decide +kernel, by decide +kernel⟩, List.mem_of_getElem? (i := 670) (by decide +kernel), List.mem_of_getElem? (i := 839) (by decide +kernel), List.mem_of_getElem? (i := 840) (by decide +kernel)⟩
theorem lw_p20 : lw_okq (⟨"SpeltByFriendsModel", "wantsOf", "(I)I"⟩, 31) := ⟨⟨by decide +kernel, by decide +kernel⟩, List.mem_of_getElem? (i := 670) (by decide +kernel), List.mem_of_getElem? (i := 843) (by decide +kernel), List.mem_of_getElem? (i := 844) (by decide +kernel)⟩
theorem lw_p21 : lw_okq (⟨"SpeltByFriendsModel", "isCompany", "(I)Z"⟩, 31) := ⟨⟨by decide +kernel, by decide +kernel⟩, List.mem_of_getElem? (i := 670) (by decide +kernel), List.mem_of_getElem? (i := 870) (by decide +kernel), List.mem_of_getElem? (i := 871) (by decide +kernel)⟩
theorem lw_p22 : lw_okq (⟨"SpeltByFriendsModel", "movesNow", "(II)I"⟩, 31) := ⟨⟨by decide +kernel, by decide +kernel⟩, List.mem_of_getElem? (i := 670) (by decide +kernel), List.mem_of_getElem? (i := 878) (by decide +kernel), List.mem_of_getElem? (i := 879) (by decide +kernel)⟩
theorem lw_p23 : lw_okq (⟨"SpeltByFriendsModel", "movesBy", "(I)I"⟩, 31) := ⟨⟨by decide +kernel, by decide +kernel⟩, List.mem_of_getElem? (i := 670) (by decide +kernel), List.mem_of_getElem? (i := 883) (by decide +kernel), List.mem_of_getElem? (i := 884) (by decide +kernel)⟩
theorem lw_p24 : lw_okq (⟨"SpeltByFriendsModel", "roomBy", "(II)I"⟩, 31) := ⟨⟨by decide +kernel, by decide +kernel⟩, List.mem_of_getElem? (i := 670) (by decide +kernel), List.mem_of_getElem? (i := 887) (by decide +kernel), List.mem_of_getElem? (i := 888) (by decide +kernel)⟩
theorem lw_p25 : lw_okq (⟨"SpeltByFriendsModel", "isWrittenIf", "(II)Z"⟩, 31) := ⟨⟨by decide +kernel, by decide +kernel⟩, List.mem_of_getElem? (i := 670) (by decide +kernel), List.mem_of_getElem? (i := 891) (by decide +kernel), List.mem_of_getElem? (i := 892) (by decide +kernel)⟩
theorem lw_p26 : lw_okq (⟨"SpeltByFriendsModel", "daysNow", "(II)I"⟩, 31) := ⟨⟨by decide +kernel, by decide +kernel⟩, List.mem_of_getElem? (i := 670) (by decide +kernel), List.mem_of_getElem? (i := 899) (by decide +kernel), List.mem_of_getElem? (i := 900) (by decide +kernel)⟩
theorem lw_p27 : lw_okq (⟨"SpeltByFriendsModel", "layWritten", "()V"⟩, 31) := ⟨⟨by decide +kernel, by decide +kernel⟩, List.mem_of_getElem? (i := 670) (by decide +kernel), List.mem_of_getElem? (i := 903) (by decide +kernel), List.mem_of_getElem? (i := 904) (by decide +kernel)⟩
theorem lw_p28 : lw_okq (⟨"SpeltByFriendsModel", "writtenBy", "(II)I"⟩, 31) := ⟨⟨by decide +kernel, by decide +kernel⟩, List.mem_of_getElem? (i := 670) (by decide +kernel), List.mem_of_getElem? (i := 907) (by decide +kernel), List.mem_of_getElem? (i := 908) (by decide +kernel)⟩
theorem lw_p29 : lw_okq (⟨"SpeltByFriendsModel", "holdersNow", "(II)I"⟩, 31) := ⟨⟨by decide +kernel, by decide +kernel⟩, List.mem_of_getElem? (i := 670) (by decide +kernel), List.mem_of_getElem? (i := 923) (by decide +kernel), List.mem_of_getElem? (i := 924) (by decide +kernel)⟩
theorem lw_p30 : lw_okq (⟨"SpeltByFriendsModel", "couldHold", "(III)Z"⟩, 31) := ⟨⟨by decide +kernel, by decide +kernel⟩, List.mem_of_getElem? (i := 670) (by decide +kernel), List.mem_of_getElem? (i := 927) (by decide +kernel), List.mem_of_getElem? (i := 928) (by decide +kernel)⟩
theorem lw_p31 : lw_okq (⟨"SpeltByFriendsModel", "inviteNow", "(I)I"⟩, 31) := ⟨⟨by decide +kernel, by decide +kernel⟩, List.mem_of_getElem? (i := 670) (by decide +kernel), List.mem_of_getElem? (i := 935) (by decide +kernel), List.mem_of_getElem? (i := 936) (by decide +kernel)⟩
def lw_privs_2 : List (MethodName × Nat) := [(⟨"SpeltByFriendsModel", "isWritten", "(II)Z"⟩, 31), (⟨"SpeltByFriendsModel", "isWrittenBy", "(IIII)Z"⟩, 31), (⟨"SpeltByFriendsModel", "isThere", "(III)Z"⟩, 31), (⟨"SpeltByFriendsModel", "lettersOf", "(I)I"⟩, 31), (⟨"SpeltByFriendsModel", "wantsOf", "(I)I"⟩, 31), (⟨"SpeltByFriendsModel", "isCompany", "(I)Z"⟩, 31), (⟨"SpeltByFriendsModel", "movesNow", "(II)I"⟩, 31), (⟨"SpeltByFriendsModel", "movesBy", "(I)I"⟩, 31), (⟨"SpeltByFriendsModel", "roomBy", "(II)I"⟩, 31), (⟨"SpeltByFriendsModel", "isWrittenIf", "(II)Z"⟩, 31), (⟨"SpeltByFriendsModel", "daysNow", "(II)I"⟩, 31), (⟨"SpeltByFriendsModel", "layWritten", "()V"⟩, 31), (⟨"SpeltByFriendsModel", "writtenBy", "(II)I"⟩, 31), (⟨"SpeltByFriendsModel", "holdersNow", "(II)I"⟩, 31), (⟨"SpeltByFriendsModel", "couldHold", "(III)Z"⟩, 31), (⟨"SpeltByFriendsModel", "inviteNow", "(I)I"⟩, 31)]
theorem lw_r2 : ∀ q ∈ lw_privs_2, lw_okq q := List.forall_mem_cons.mpr ⟨lw_p16, List.forall_mem_cons.mpr ⟨lw_p17, List.forall_mem_cons.mpr ⟨lw_p18, List.forall_mem_cons.mpr ⟨lw_p19, List.forall_mem_cons.mpr ⟨lw_p20, List.forall_mem_cons.mpr ⟨lw_p21, List.forall_mem_cons.mpr ⟨lw_p22, List.forall_mem_cons.mpr ⟨lw_p23, List.forall_mem_cons.mpr ⟨lw_p24, List.forall_mem_cons.mpr ⟨lw_p25, List.forall_mem_cons.mpr ⟨lw_p26, List.forall_mem_cons.mpr ⟨lw_p27, List.forall_mem_cons.mpr ⟨lw_p28, List.forall_mem_cons.mpr ⟨lw_p29, List.forall_mem_cons.mpr ⟨lw_p30, List.forall_mem_cons.mpr ⟨lw_p31, fun _ h => absurd h List.not_mem_nil⟩⟩⟩⟩⟩⟩⟩⟩⟩⟩⟩⟩⟩⟩⟩⟩
theorem lw_p32 : lw_okq (⟨"SpeltByFriendsModel", "writtenWays", "(II)I"⟩, 31) := ⟨⟨by decide +kernel, by decide +kernel⟩, List.mem_of_getElem? (i := 670) (by decide +kernel), List.mem_of_getElem? (i := 939) (by decide +kernel), List.mem_of_getElem? (i := 940) (by decide +kernel)⟩
theorem lw_p33 : lw_okq (⟨"SpeltByFriendsModel", "yearsNow", "(III)I"⟩, 31) := ⟨⟨by decide +kernel, by decide +kernel⟩, List.mem_of_getElem? (i := 670) (by decide +kernel), List.mem_of_getElem? (i := 947) (by decide +kernel), List.mem_of_getElem? (i := 948) (by decide +kernel)⟩
theorem lw_p34 : lw_okq (⟨"SpeltByFriendsModel", "draw", "(I)I"⟩, 31) := ⟨⟨by decide +kernel, by decide +kernel⟩, List.mem_of_getElem? (i := 670) (by decide +kernel), List.mem_of_getElem? (i := 951) (by decide +kernel), List.mem_of_getElem? (i := 952) (by decide +kernel)⟩
theorem lw_p35 : lw_okq (⟨"SpeltByFriendsModel", "writtenAll", "()I"⟩, 31) := ⟨⟨by decide +kernel, by decide +kernel⟩, List.mem_of_getElem? (i := 670) (by decide +kernel), List.mem_of_getElem? (i := 959) (by decide +kernel), List.mem_of_getElem? (i := 960) (by decide +kernel)⟩
theorem lw_p36 : lw_okq (⟨"SpeltByFriendsModel", "howMany", "(I)I"⟩, 31) := ⟨⟨by decide +kernel, by decide +kernel⟩, List.mem_of_getElem? (i := 670) (by decide +kernel), List.mem_of_getElem? (i := 975) (by decide +kernel), List.mem_of_getElem? (i := 976) (by decide +kernel)⟩
theorem lw_p37 : lw_okq (⟨"SpeltByFriendsModel", "pairs", "()I"⟩, 31) := ⟨⟨by decide +kernel, by decide +kernel⟩, List.mem_of_getElem? (i := 670) (by decide +kernel), List.mem_of_getElem? (i := 979) (by decide +kernel), List.mem_of_getElem? (i := 980) (by decide +kernel)⟩
theorem lw_p38 : lw_okq (⟨"SpeltByFriendsModel", "mix", "(J)V"⟩, 31) := ⟨⟨by decide +kernel, by decide +kernel⟩, List.mem_of_getElem? (i := 670) (by decide +kernel), List.mem_of_getElem? (i := 991) (by decide +kernel), List.mem_of_getElem? (i := 992) (by decide +kernel)⟩
def lw_privs_3 : List (MethodName × Nat) := [(⟨"SpeltByFriendsModel", "writtenWays", "(II)I"⟩, 31), (⟨"SpeltByFriendsModel", "yearsNow", "(III)I"⟩, 31), (⟨"SpeltByFriendsModel", "draw", "(I)I"⟩, 31), (⟨"SpeltByFriendsModel", "writtenAll", "()I"⟩, 31), (⟨"SpeltByFriendsModel", "howMany", "(I)I"⟩, 31), (⟨"SpeltByFriendsModel", "pairs", "()I"⟩, 31), (⟨"SpeltByFriendsModel", "mix", "(J)V"⟩, 31)]
theorem lw_r3 : ∀ q ∈ lw_privs_3, lw_okq q := List.forall_mem_cons.mpr ⟨lw_p32, List.forall_mem_cons.mpr ⟨lw_p33, List.forall_mem_cons.mpr ⟨lw_p34, List.forall_mem_cons.mpr ⟨lw_p35, List.forall_mem_cons.mpr ⟨lw_p36, List.forall_mem_cons.mpr ⟨lw_p37, List.forall_mem_cons.mpr ⟨lw_p38, fun _ h => absurd h List.not_mem_nil⟩⟩⟩⟩⟩⟩⟩
def lw_privs : List (MethodName × Nat) := lw_privs_1 ++ (lw_privs_2 ++ (lw_privs_3))
def lw_tbl : List Cond := k2_sels lw_privs ++ tables_1
theorem lw_privs_ok : ∀ q ∈ lw_privs, lw_okq q := by
  show ∀ q ∈ lw_privs_1 ++ (lw_privs_2 ++ (lw_privs_3)), lw_okq q
  exact List.forall_mem_append.mpr ⟨lw_r1, List.forall_mem_append.mpr ⟨lw_r2, lw_r3⟩⟩
end
section
/-! ===== BEGIN words of one list among another's, by their places ===== -/
theorem goodIn_r {big : List Cond} (ws : List Cond) (ps : List Nat) (hp : ws = ps.filterMap (fun i => big[i]?)) (h : ws.all goodWord = true) : GoodIn big ws := by
  intro w hw
  have h1 := List.all_eq_true.mp h w hw
  rw [hp] at hw
  obtain ⟨i, -, hi⟩ := List.mem_filterMap.mp hw
  have hm : w ∈ big := by first | exact List.mem_of_getElem? hi | exact List.getElem?_mem hi
  exact ⟨hm, good_of_word h1⟩
theorem goodIn_app {big a b : List Cond} (ha : GoodIn big a) (hb : GoodIn big b) : GoodIn big (a ++ b) := fun w h => (List.mem_append.mp h).elim (ha w) (hb w)
theorem goodIn_ca {big a b : List Cond} {c : Cond} (ha : GoodIn big (c :: a)) (hb : GoodIn big b) : GoodIn big (c :: (a ++ b)) := fun w h => (List.mem_cons.mp h).elim (fun e => ha w (List.mem_cons.mpr (Or.inl e))) (fun h => (List.mem_append.mp h).elim (fun h => ha w (List.mem_cons.mpr (Or.inr h))) (hb w))
theorem goodIn_sub {big ws : List Cond} (hm : ∀ w ∈ ws, w ∈ big) (h : ws.all goodWord = true) : GoodIn big ws := fun w hw => ⟨hm w hw, good_of_word (List.all_eq_true.mp h w hw)⟩
/-! ===== END ===== -/

/-! ===== BEGIN printed: names, fields, word lists, decode rows ===== -/
def RX0 : String := "SpeltByFriends$Forger"
def TX0 : u_T := fun k => match k with
  | _ => ("SpeltByFriends$Person", "kind", "I", true)
def tyX0 : Nat → FieldType := fun k => match k with
  | _ => .int
abbrev wsX00 : List Cond := u_ws RX0 TX0 1
theorem nmX0 : ∀ a, a < 1 → ∀ b, b < 1 → a ≠ b → (TX0 a).2.1 ≠ (TX0 b).2.1 := by decide +kernel
theorem tyX0_ok : ∀ k, k < 1 → parseFieldDescriptor (TX0 k).2.2.1 = some (tyX0 k) := by decide +kernel
abbrev cX0_init : ByteArray := prog_2_method_1_code
def yX0_init : MethodName := ⟨RX0, "<init>", "(I)V"⟩
abbrev cX0_isSpelt : ByteArray := prog_2_method_2_code
def yX0_isSpelt : MethodName := ⟨RX0, "isSpelt", "(ZZII)Z"⟩
def RX1 : String := "SpeltByFriends$Guesses"
def TX1 : u_T := fun k => match k with
  | 0 => ("SpeltByFriends$Guesses", "firsts", "[I", true)
  | 1 => ("SpeltByFriends$Guesses", "lasts", "[I", true)
  | 2 => ("SpeltByFriends$Guesses", "person", "I", false)
  | _ => ("SpeltByFriends$Guesses", "many", "I", false)
def tyX1 : Nat → FieldType := fun k => match k with
  | 0 => .array .int
  | 1 => .array .int
  | 2 => .int
  | _ => .int
abbrev wsX10 : List Cond := u_ws RX1 TX1 4
theorem nmX1 : ∀ a, a < 4 → ∀ b, b < 4 → a ≠ b → (TX1 a).2.1 ≠ (TX1 b).2.1 := by decide +kernel
theorem tyX1_ok : ∀ k, k < 4 → parseFieldDescriptor (TX1 k).2.2.1 = some (tyX1 k) := by decide +kernel
abbrev cX1_init : ByteArray := prog_3_method_1_code
def yX1_init : MethodName := ⟨RX1, "<init>", "()V"⟩
abbrev cX1_gather : ByteArray := prog_3_method_2_code
def yX1_gather : MethodName := ⟨RX1, "gather", "(LSpeltByFriends$Town;I)V"⟩
abbrev cX1_agrees : ByteArray := prog_3_method_3_code
def yX1_agrees : MethodName := ⟨RX1, "agrees", "(LSpeltByFriends$Town;II)Z"⟩
abbrev cX1_least : ByteArray := prog_3_method_4_code
def yX1_least : MethodName := ⟨RX1, "least", "()I"⟩
abbrev cX1_bestCompany : ByteArray := prog_3_method_5_code
def yX1_bestCompany : MethodName := ⟨RX1, "bestCompany", "(LSpeltByFriends$Town;)I"⟩
abbrev cX1_leftAtWorst : ByteArray := prog_3_method_6_code
def yX1_leftAtWorst : MethodName := ⟨RX1, "leftAtWorst", "(LSpeltByFriends$Town;I)I"⟩
def RX2 : String := "SpeltByFriends$Hermit"
def TX2 : u_T := fun k => match k with
  | _ => ("SpeltByFriends$Person", "kind", "I", true)
def tyX2 : Nat → FieldType := fun k => match k with
  | _ => .int
abbrev wsX20 : List Cond := u_ws RX2 TX2 1
theorem nmX2 : ∀ a, a < 1 → ∀ b, b < 1 → a ≠ b → (TX2 a).2.1 ≠ (TX2 b).2.1 := by decide +kernel
theorem tyX2_ok : ∀ k, k < 1 → parseFieldDescriptor (TX2 k).2.2.1 = some (tyX2 k) := by decide +kernel
abbrev cX2_init : ByteArray := prog_4_method_1_code
def yX2_init : MethodName := ⟨RX2, "<init>", "()V"⟩
abbrev cX2_isSpelt : ByteArray := prog_4_method_2_code
def yX2_isSpelt : MethodName := ⟨RX2, "isSpelt", "(ZZII)Z"⟩
def RX3 : String := "SpeltByFriends$Ledger"
def TX3 : u_T := fun k => match k with
  | 0 => ("SpeltByFriends$Ledger", "firstHolder", "[I", true)
  | 1 => ("SpeltByFriends$Ledger", "lastHolder", "[I", true)
  | 2 => ("SpeltByFriends$Ledger", "foes", "[I", true)
  | 3 => ("SpeltByFriends$Ledger", "heardOf", "[I", true)
  | 4 => ("SpeltByFriends$Ledger", "heardIn", "[I", true)
  | 5 => ("SpeltByFriends$Ledger", "heardYes", "[I", true)
  | 6 => ("SpeltByFriends$Ledger", "rooms", "I", false)
  | 7 => ("SpeltByFriends$Ledger", "heard", "I", false)
  | 8 => ("SpeltByFriends$Ledger", "went", "I", false)
  | _ => ("SpeltByFriends$Ledger", "sold", "I", false)
def tyX3 : Nat → FieldType := fun k => match k with
  | 0 => .array .int
  | 1 => .array .int
  | 2 => .array .int
  | 3 => .array .int
  | 4 => .array .int
  | 5 => .array .int
  | 6 => .int
  | 7 => .int
  | 8 => .int
  | _ => .int
abbrev wsX30 : List Cond := u_ws RX3 TX3 10
theorem nmX3 : ∀ a, a < 10 → ∀ b, b < 10 → a ≠ b → (TX3 a).2.1 ≠ (TX3 b).2.1 := by decide +kernel
theorem tyX3_ok : ∀ k, k < 10 → parseFieldDescriptor (TX3 k).2.2.1 = some (tyX3 k) := by decide +kernel
abbrev cX3_init : ByteArray := prog_5_method_1_code
def yX3_init : MethodName := ⟨RX3, "<init>", "()V"⟩
abbrev cX3_clear : ByteArray := prog_5_method_2_code
def yX3_clear : MethodName := ⟨RX3, "clear", "()V"⟩
abbrev cX3_copy : ByteArray := prog_5_method_3_code
def yX3_copy : MethodName := ⟨RX3, "copy", "(LSpeltByFriends$Ledger;)V"⟩
abbrev cX3_setFoe : ByteArray := prog_5_method_4_code
def yX3_setFoe : MethodName := ⟨RX3, "setFoe", "(IIZ)V"⟩
abbrev cX3_addHeard : ByteArray := prog_5_method_5_code
def yX3_addHeard : MethodName := ⟨RX3, "addHeard", "(IIZ)V"⟩
def RX4 : String := "SpeltByFriends$Lottery"
def TX4 : u_T := fun k => match k with
  | 0 => ("SpeltByFriends$Lottery", "seed", "I", false)
  | 1 => ("SpeltByFriends$Lottery", "together", "I", false)
  | _ => ("SpeltByFriends$Lottery", "inTheEnd", "I", false)
def tyX4 : Nat → FieldType := fun k => match k with
  | 0 => .int
  | 1 => .int
  | _ => .int
abbrev wsX40 : List Cond := u_ws RX4 TX4 3
theorem nmX4 : ∀ a, a < 3 → ∀ b, b < 3 → a ≠ b → (TX4 a).2.1 ≠ (TX4 b).2.1 := by decide +kernel
theorem tyX4_ok : ∀ k, k < 3 → parseFieldDescriptor (TX4 k).2.2.1 = some (tyX4 k) := by decide +kernel
abbrev cX4_init : ByteArray := prog_6_method_1_code
def yX4_init : MethodName := ⟨RX4, "<init>", "()V"⟩
abbrev cX4_play : ByteArray := prog_6_method_2_code
def yX4_play : MethodName := ⟨RX4, "play", "(LSpeltByFriends$Town;II)V"⟩
abbrev cX4_draw : ByteArray := prog_6_method_3_code
def yX4_draw : MethodName := ⟨RX4, "draw", "(I)I"⟩
def RX5 : String := "SpeltByFriends$Page"
def TX5 : u_T := fun k => match k with
  | 0 => ("SpeltByFriends$Page", "letters", "[I", true)
  | _ => ("SpeltByFriends$Page", "length", "I", false)
def tyX5 : Nat → FieldType := fun k => match k with
  | 0 => .array .int
  | _ => .int
abbrev wsX50 : List Cond := u_ws RX5 TX5 2
theorem nmX5 : ∀ a, a < 2 → ∀ b, b < 2 → a ≠ b → (TX5 a).2.1 ≠ (TX5 b).2.1 := by decide +kernel
theorem tyX5_ok : ∀ k, k < 2 → parseFieldDescriptor (TX5 k).2.2.1 = some (tyX5 k) := by decide +kernel
abbrev cX5_init : ByteArray := prog_7_method_1_code
def yX5_init : MethodName := ⟨RX5, "<init>", "()V"⟩
abbrev cX5_add : ByteArray := prog_7_method_2_code
def yX5_add : MethodName := ⟨RX5, "add", "(I)Z"⟩
abbrev cX5_isTown : ByteArray := prog_7_method_3_code
def yX5_isTown : MethodName := ⟨RX5, "isTown", "()Z"⟩
abbrev cX5_people : ByteArray := prog_7_method_4_code
def yX5_people : MethodName := ⟨RX5, "people", "()I"⟩
abbrev cX5_kindAt : ByteArray := prog_7_method_5_code
def yX5_kindAt : MethodName := ⟨RX5, "kindAt", "(I)I"⟩
abbrev cX5_digitAt : ByteArray := prog_7_method_6_code
def yX5_digitAt : MethodName := ⟨RX5, "digitAt", "(I)I"⟩
abbrev cX5_firstFault : ByteArray := prog_7_method_7_code
def yX5_firstFault : MethodName := ⟨RX5, "firstFault", "()I"⟩
abbrev cX5_isWhole : ByteArray := prog_7_method_8_code
def yX5_isWhole : MethodName := ⟨RX5, "isWhole", "()Z"⟩
abbrev cX5_fits : ByteArray := prog_7_method_9_code
def yX5_fits : MethodName := ⟨RX5, "fits", "(I)Z"⟩
abbrev cX5_firstNobody : ByteArray := prog_7_method_10_code
def yX5_firstNobody : MethodName := ⟨RX5, "firstNobody", "()I"⟩
def RX6 : String := "SpeltByFriends$Person"
def TX6 : u_T := fun k => match k with
  | _ => ("SpeltByFriends$Person", "kind", "I", true)
def tyX6 : Nat → FieldType := fun k => match k with
  | _ => .int
abbrev wsX60 : List Cond := u_ws RX6 TX6 1
theorem nmX6 : ∀ a, a < 1 → ∀ b, b < 1 → a ≠ b → (TX6 a).2.1 ≠ (TX6 b).2.1 := by decide +kernel
theorem tyX6_ok : ∀ k, k < 1 → parseFieldDescriptor (TX6 k).2.2.1 = some (tyX6 k) := by decide +kernel
abbrev cX6_init : ByteArray := prog_8_method_1_code
def yX6_init : MethodName := ⟨RX6, "<init>", "(I)V"⟩
abbrev cX6_isSpelt : ByteArray := prog_8_method_2_code
def yX6_isSpelt : MethodName := ⟨RX6, "isSpelt", "(ZZII)Z"⟩
def RX7 : String := "SpeltByFriends$Plans"
def TX7 : u_T := fun k => match k with
  | 0 => ("SpeltByFriends$Plans", "writtenIn", "[I", true)
  | 1 => ("SpeltByFriends$Plans", "companiesEnd", "I", false)
  | 2 => ("SpeltByFriends$Plans", "companies", "[I", true)
  | _ => ("SpeltByFriends$Plans", "bestRooms", "I", false)
def tyX7 : Nat → FieldType := fun k => match k with
  | 0 => .array .int
  | 1 => .int
  | 2 => .array .int
  | _ => .int
abbrev wsX70 : List Cond := u_ws RX7 TX7 4
theorem nmX7 : ∀ a, a < 4 → ∀ b, b < 4 → a ≠ b → (TX7 a).2.1 ≠ (TX7 b).2.1 := by decide +kernel
theorem tyX7_ok : ∀ k, k < 4 → parseFieldDescriptor (TX7 k).2.2.1 = some (tyX7 k) := by decide +kernel
abbrev cX7_init : ByteArray := prog_9_method_1_code
def yX7_init : MethodName := ⟨RX7, "<init>", "()V"⟩
abbrev cX7_planMoves : ByteArray := prog_9_method_2_code
def yX7_planMoves : MethodName := ⟨RX7, "planMoves", "(LSpeltByFriends$Town;I)I"⟩
abbrev cX7_howManyDiffer : ByteArray := prog_9_method_3_code
def yX7_howManyDiffer : MethodName := ⟨RX7, "howManyDiffer", "(II)I"⟩
abbrev cX7_planDays : ByteArray := prog_9_method_4_code
def yX7_planDays : MethodName := ⟨RX7, "planDays", "(LSpeltByFriends$Town;I)I"⟩
abbrev cX7_whoIsWritten : ByteArray := prog_9_method_5_code
def yX7_whoIsWritten : MethodName := ⟨RX7, "whoIsWritten", "(LSpeltByFriends$Town;I)I"⟩
abbrev cX7_cover : ByteArray := prog_9_method_6_code
def yX7_cover : MethodName := ⟨RX7, "cover", "(IIII)Z"⟩
def RX8 : String := "SpeltByFriends$Proud"
def TX8 : u_T := fun k => match k with
  | _ => ("SpeltByFriends$Person", "kind", "I", true)
def tyX8 : Nat → FieldType := fun k => match k with
  | _ => .int
abbrev wsX80 : List Cond := u_ws RX8 TX8 1
theorem nmX8 : ∀ a, a < 1 → ∀ b, b < 1 → a ≠ b → (TX8 a).2.1 ≠ (TX8 b).2.1 := by decide +kernel
theorem tyX8_ok : ∀ k, k < 1 → parseFieldDescriptor (TX8 k).2.2.1 = some (tyX8 k) := by decide +kernel
abbrev cX8_init : ByteArray := prog_10_method_1_code
def yX8_init : MethodName := ⟨RX8, "<init>", "()V"⟩
abbrev cX8_isSpelt : ByteArray := prog_10_method_2_code
def yX8_isSpelt : MethodName := ⟨RX8, "isSpelt", "(ZZII)Z"⟩
def RX9 : String := "SpeltByFriends$Town"
def TX9 : u_T := fun k => match k with
  | 0 => ("SpeltByFriends$Town", "ledger", "LSpeltByFriends$Ledger;", true)
  | 1 => ("SpeltByFriends$Town", "kinds", "[LSpeltByFriends$Person;", true)
  | 2 => ("SpeltByFriends$Town", "people", "[LSpeltByFriends$Person;", true)
  | _ => ("SpeltByFriends$Town", "size", "I", false)
def tyX9 : Nat → FieldType := fun k => match k with
  | 0 => .object "SpeltByFriends$Ledger"
  | 1 => .array (.object "SpeltByFriends$Person")
  | 2 => .array (.object "SpeltByFriends$Person")
  | _ => .int
abbrev wsX90 : List Cond := u_ws RX9 TX9 4
theorem nmX9 : ∀ a, a < 4 → ∀ b, b < 4 → a ≠ b → (TX9 a).2.1 ≠ (TX9 b).2.1 := by decide +kernel
theorem tyX9_ok : ∀ k, k < 4 → parseFieldDescriptor (TX9 k).2.2.1 = some (tyX9 k) := by decide +kernel
abbrev cX9_init : ByteArray := prog_11_method_1_code
def yX9_init : MethodName := ⟨RX9, "<init>", "()V"⟩
abbrev cX9_settle : ByteArray := prog_11_method_2_code
def yX9_settle : MethodName := ⟨RX9, "settle", "(LSpeltByFriends$Page;)V"⟩
abbrev cX9_has : ByteArray := prog_11_method_3_code
def yX9_has : MethodName := ⟨RX9, "has", "(I)Z"⟩
abbrev cX9_isSetOfPeople : ByteArray := prog_11_method_4_code
def yX9_isSetOfPeople : MethodName := ⟨RX9, "isSetOfPeople", "(I)Z"⟩
abbrev cX9_isCompanyOf : ByteArray := prog_11_method_5_code
def yX9_isCompanyOf : MethodName := ⟨RX9, "isCompanyOf", "(II)Z"⟩
abbrev cX9_personAt : ByteArray := prog_11_method_6_code
def yX9_personAt : MethodName := ⟨RX9, "personAt", "(I)LSpeltByFriends$Person;"⟩
abbrev cX9_kindOf : ByteArray := prog_11_method_7_code
def yX9_kindOf : MethodName := ⟨RX9, "kindOf", "(I)I"⟩
abbrev cX9_companyIn : ByteArray := prog_11_method_8_code
def yX9_companyIn : MethodName := ⟨RX9, "companyIn", "(II)I"⟩
abbrev cX9_canWrite : ByteArray := prog_11_method_9_code
def yX9_canWrite : MethodName := ⟨RX9, "canWrite", "(II)Z"⟩
abbrev cX9_couldWrite : ByteArray := prog_11_method_10_code
def yX9_couldWrite : MethodName := ⟨RX9, "couldWrite", "(IIII)Z"⟩
abbrev cX9_howManyWritten : ByteArray := prog_11_method_11_code
def yX9_howManyWritten : MethodName := ⟨RX9, "howManyWritten", "(I)I"⟩
abbrev cX9_quarrellingPairs : ByteArray := prog_11_method_12_code
def yX9_quarrellingPairs : MethodName := ⟨RX9, "quarrellingPairs", "()I"⟩
abbrev cX9_lettersOfOthers : ByteArray := prog_11_method_13_code
def yX9_lettersOfOthers : MethodName := ⟨RX9, "lettersOfOthers", "(I)I"⟩
abbrev cX9_wants : ByteArray := prog_11_method_14_code
def yX9_wants : MethodName := ⟨RX9, "wants", "(I)I"⟩
def RX10 : String := "SpeltByFriends$Twin"
def TX10 : u_T := fun k => match k with
  | _ => ("SpeltByFriends$Person", "kind", "I", true)
def tyX10 : Nat → FieldType := fun k => match k with
  | _ => .int
abbrev wsX100 : List Cond := u_ws RX10 TX10 1
theorem nmX10 : ∀ a, a < 1 → ∀ b, b < 1 → a ≠ b → (TX10 a).2.1 ≠ (TX10 b).2.1 := by decide +kernel
theorem tyX10_ok : ∀ k, k < 1 → parseFieldDescriptor (TX10 k).2.2.1 = some (tyX10 k) := by decide +kernel
abbrev cX10_init : ByteArray := prog_12_method_1_code
def yX10_init : MethodName := ⟨RX10, "<init>", "()V"⟩
abbrev cX10_isSpelt : ByteArray := prog_12_method_2_code
def yX10_isSpelt : MethodName := ⟨RX10, "isSpelt", "(ZZII)Z"⟩
def RX11 : String := "SpeltByFriends"
def TX11 : u_T := fun k => match k with
  | 0 => ("SpeltByFriends", "page", "LSpeltByFriends$Page;", true)
  | 1 => ("SpeltByFriends", "here", "LSpeltByFriends$Town;", true)
  | 2 => ("SpeltByFriends", "kept", "LSpeltByFriends$Ledger;", true)
  | 3 => ("SpeltByFriends", "plans", "LSpeltByFriends$Plans;", true)
  | 4 => ("SpeltByFriends", "guesses", "LSpeltByFriends$Guesses;", true)
  | 5 => ("SpeltByFriends", "lottery", "LSpeltByFriends$Lottery;", true)
  | 6 => ("SpeltByFriends", "townsRead", "I", false)
  | 7 => ("SpeltByFriends", "keptOfTown", "I", false)
  | 8 => ("SpeltByFriends", "movesDone", "I", false)
  | _ => ("SpeltByFriends", "daysDone", "I", false)
def tyX11 : Nat → FieldType := fun k => match k with
  | 0 => .object "SpeltByFriends$Page"
  | 1 => .object "SpeltByFriends$Town"
  | 2 => .object "SpeltByFriends$Ledger"
  | 3 => .object "SpeltByFriends$Plans"
  | 4 => .object "SpeltByFriends$Guesses"
  | 5 => .object "SpeltByFriends$Lottery"
  | 6 => .int
  | 7 => .int
  | 8 => .int
  | _ => .int
abbrev wsX110 : List Cond := u_ws RX11 TX11 10
theorem nmX11 : ∀ a, a < 10 → ∀ b, b < 10 → a ≠ b → (TX11 a).2.1 ≠ (TX11 b).2.1 := by decide +kernel
theorem tyX11_ok : ∀ k, k < 10 → parseFieldDescriptor (TX11 k).2.2.1 = some (tyX11 k) := by decide +kernel
abbrev cX11_init : ByteArray := prog_1_method_1_code
def yX11_init : MethodName := ⟨RX11, "<init>", "()V"⟩
abbrev cX11_letter : ByteArray := prog_1_method_2_code
def yX11_letter : MethodName := ⟨RX11, "letter", "(I)I"⟩
abbrev cX11_blank : ByteArray := prog_1_method_3_code
def yX11_blank : MethodName := ⟨RX11, "blank", "()I"⟩
abbrev cX11_fault : ByteArray := prog_1_method_4_code
def yX11_fault : MethodName := ⟨RX11, "fault", "()I"⟩
abbrev cX11_town : ByteArray := prog_1_method_5_code
def yX11_town : MethodName := ⟨RX11, "town", "()I"⟩
abbrev cX11_about : ByteArray := prog_1_method_6_code
def yX11_about : MethodName := ⟨RX11, "about", "(II)I"⟩
abbrev cX11_as : ByteArray := prog_1_method_7_code
def yX11_as : MethodName := ⟨RX11, "as", "(II)I"⟩
abbrev cX11_go : ByteArray := prog_1_method_8_code
def yX11_go : MethodName := ⟨RX11, "go", "(II)I"⟩
abbrev cX11_sell : ByteArray := prog_1_method_9_code
def yX11_sell : MethodName := ⟨RX11, "sell", "(III)I"⟩
abbrev cX11_quarrel : ByteArray := prog_1_method_10_code
def yX11_quarrel : MethodName := ⟨RX11, "quarrel", "(IIZ)I"⟩
abbrev cX11_written : ByteArray := prog_1_method_11_code
def yX11_written : MethodName := ⟨RX11, "written", "(II)I"⟩
abbrev cX11_moves : ByteArray := prog_1_method_12_code
def yX11_moves : MethodName := ⟨RX11, "moves", "(II)I"⟩
abbrev cX11_days : ByteArray := prog_1_method_13_code
def yX11_days : MethodName := ⟨RX11, "days", "(II)I"⟩
abbrev cX11_hear : ByteArray := prog_1_method_14_code
def yX11_hear : MethodName := ⟨RX11, "hear", "(IIZ)I"⟩
abbrev cX11_forget : ByteArray := prog_1_method_15_code
def yX11_forget : MethodName := ⟨RX11, "forget", "()I"⟩
abbrev cX11_holders : ByteArray := prog_1_method_16_code
def yX11_holders : MethodName := ⟨RX11, "holders", "(II)I"⟩
abbrev cX11_invite : ByteArray := prog_1_method_17_code
def yX11_invite : MethodName := ⟨RX11, "invite", "(I)I"⟩
abbrev cX11_years : ByteArray := prog_1_method_18_code
def yX11_years : MethodName := ⟨RX11, "years", "(III)I"⟩
abbrev cX11_image : ByteArray := prog_1_method_19_code
def yX11_image : MethodName := ⟨RX11, "image", "()I"⟩
abbrev cX11_restore : ByteArray := prog_1_method_20_code
def yX11_restore : MethodName := ⟨RX11, "restore", "()I"⟩
abbrev cX11_count : ByteArray := prog_1_method_21_code
def yX11_count : MethodName := ⟨RX11, "count", "(I)I"⟩
abbrev cX11_digest : ByteArray := prog_1_method_22_code
def yX11_digest : MethodName := ⟨RX11, "digest", "()J"⟩
abbrev cX11_tellAbout : ByteArray := prog_1_method_23_code
def yX11_tellAbout : MethodName := ⟨RX11, "tellAbout", "(II)I"⟩
abbrev cX11_isOfKind : ByteArray := prog_1_method_24_code
def yX11_isOfKind : MethodName := ⟨RX11, "isOfKind", "(LSpeltByFriends$Person;I)Z"⟩
abbrev cX11_at : ByteArray := prog_1_method_25_code
def yX11_at : MethodName := ⟨RX11, "at", "([II)I"⟩
abbrev cX11_put : ByteArray := prog_1_method_26_code
def yX11_put : MethodName := ⟨RX11, "put", "([III)V"⟩
abbrev cX11_shiftOf : ByteArray := prog_1_method_27_code
def yX11_shiftOf : MethodName := ⟨RX11, "shiftOf", "(I)I"⟩
abbrev cX11_roomIn : ByteArray := prog_1_method_28_code
def yX11_roomIn : MethodName := ⟨RX11, "roomIn", "(II)I"⟩
abbrev cX11_withRoom : ByteArray := prog_1_method_29_code
def yX11_withRoom : MethodName := ⟨RX11, "withRoom", "(III)I"⟩
def RX12 : String := "SpeltByFriendsModel"
def TX12 : u_T := fun k => match k with
  | 0 => ("SpeltByFriendsModel", "towns", "I", false)
  | 1 => ("SpeltByFriendsModel", "people", "I", false)
  | 2 => ("SpeltByFriendsModel", "kindOf", "[I", true)
  | 3 => ("SpeltByFriendsModel", "holderOf", "[I", true)
  | 4 => ("SpeltByFriendsModel", "roomOf", "[I", true)
  | 5 => ("SpeltByFriendsModel", "quarrelsOf", "[I", true)
  | 6 => ("SpeltByFriendsModel", "went", "I", false)
  | 7 => ("SpeltByFriendsModel", "sold", "I", false)
  | 8 => ("SpeltByFriendsModel", "heard", "I", false)
  | 9 => ("SpeltByFriendsModel", "heardWho", "[I", true)
  | 10 => ("SpeltByFriendsModel", "heardIn", "[I", true)
  | 11 => ("SpeltByFriendsModel", "heardSo", "[I", true)
  | 12 => ("SpeltByFriendsModel", "moveAsks", "I", false)
  | 13 => ("SpeltByFriendsModel", "dayAsks", "I", false)
  | 14 => ("SpeltByFriendsModel", "pageLength", "I", false)
  | 15 => ("SpeltByFriendsModel", "page", "[B", true)
  | 16 => ("SpeltByFriendsModel", "writtenIn", "[I", true)
  | 17 => ("SpeltByFriendsModel", "seedNow", "J", false)
  | 18 => ("SpeltByFriendsModel", "saved", "[I", true)
  | 19 => ("SpeltByFriendsModel", "isKept", "Z", false)
  | 20 => ("SpeltByFriendsModel", "keptTown", "I", false)
  | 21 => ("SpeltByFriendsModel", "keptWent", "I", false)
  | 22 => ("SpeltByFriendsModel", "keptSold", "I", false)
  | 23 => ("SpeltByFriendsModel", "keptHeard", "I", false)
  | 24 => ("SpeltByFriendsModel", "keptHolder", "[I", true)
  | 25 => ("SpeltByFriendsModel", "keptRoom", "[I", true)
  | 26 => ("SpeltByFriendsModel", "keptQuarrels", "[I", true)
  | 27 => ("SpeltByFriendsModel", "keptWho", "[I", true)
  | 28 => ("SpeltByFriendsModel", "keptIn", "[I", true)
  | 29 => ("SpeltByFriendsModel", "keptSo", "[I", true)
  | _ => ("SpeltByFriendsModel", "h", "J", false)
def tyX12 : Nat → FieldType := fun k => match k with
  | 0 => .int
  | 1 => .int
  | 2 => .array .int
  | 3 => .array .int
  | 4 => .array .int
  | 5 => .array .int
  | 6 => .int
  | 7 => .int
  | 8 => .int
  | 9 => .array .int
  | 10 => .array .int
  | 11 => .array .int
  | 12 => .int
  | 13 => .int
  | 14 => .int
  | 15 => .array .byte
  | 16 => .array .int
  | 17 => .long
  | 18 => .array .int
  | 19 => .boolean
  | 20 => .int
  | 21 => .int
  | 22 => .int
  | 23 => .int
  | 24 => .array .int
  | 25 => .array .int
  | 26 => .array .int
  | 27 => .array .int
  | 28 => .array .int
  | 29 => .array .int
  | _ => .long
abbrev wsX120 : List Cond := u_ws RX12 TX12 31
theorem nmX12 : ∀ a, a < 31 → ∀ b, b < 31 → a ≠ b → (TX12 a).2.1 ≠ (TX12 b).2.1 := by decide +kernel
theorem tyX12_ok : ∀ k, k < 31 → parseFieldDescriptor (TX12 k).2.2.1 = some (tyX12 k) := by decide +kernel
abbrev cX12_init : ByteArray := prog_14_method_1_code
def yX12_init : MethodName := ⟨RX12, "<init>", "()V"⟩
abbrev cX12_within : ByteArray := prog_14_method_3_code
def yX12_within : MethodName := ⟨RX12, "within", "(III)Z"⟩
abbrev cX12_isIn : ByteArray := prog_14_method_4_code
def yX12_isIn : MethodName := ⟨RX12, "isIn", "(II)Z"⟩
abbrev cX12_size : ByteArray := prog_14_method_5_code
def yX12_size : MethodName := ⟨RX12, "size", "(I)I"⟩
abbrev cX12_letter : ByteArray := prog_14_method_6_code
def yX12_letter : MethodName := ⟨RX12, "letter", "(I)I"⟩
abbrev cX12_blank : ByteArray := prog_14_method_7_code
def yX12_blank : MethodName := ⟨RX12, "blank", "()I"⟩
abbrev cX12_kindBy : ByteArray := prog_14_method_8_code
def yX12_kindBy : MethodName := ⟨RX12, "kindBy", "(I)I"⟩
abbrev cX12_isGood : ByteArray := prog_14_method_9_code
def yX12_isGood : MethodName := ⟨RX12, "isGood", "(I)Z"⟩
abbrev cX12_isWhole : ByteArray := prog_14_method_10_code
def yX12_isWhole : MethodName := ⟨RX12, "isWhole", "()Z"⟩
abbrev cX12_faultNow : ByteArray := prog_14_method_11_code
def yX12_faultNow : MethodName := ⟨RX12, "faultNow", "()I"⟩
abbrev cX12_fault : ByteArray := prog_14_method_12_code
def yX12_fault : MethodName := ⟨RX12, "fault", "()I"⟩
abbrev cX12_town : ByteArray := prog_14_method_13_code
def yX12_town : MethodName := ⟨RX12, "town", "()I"⟩
abbrev cX12_isOne : ByteArray := prog_14_method_14_code
def yX12_isOne : MethodName := ⟨RX12, "isOne", "(I)Z"⟩
abbrev cX12_isCompany : ByteArray := prog_14_method_15_code
def yX12_isCompany : MethodName := ⟨RX12, "isCompany", "(I)Z"⟩
abbrev cX12_isThere : ByteArray := prog_14_method_16_code
def yX12_isThere : MethodName := ⟨RX12, "isThere", "(III)Z"⟩
abbrev cX12_isWrittenBy : ByteArray := prog_14_method_17_code
def yX12_isWrittenBy : MethodName := ⟨RX12, "isWrittenBy", "(IIII)Z"⟩
abbrev cX12_isWritten : ByteArray := prog_14_method_18_code
def yX12_isWritten : MethodName := ⟨RX12, "isWritten", "(II)Z"⟩
abbrev cX12_companyOf : ByteArray := prog_14_method_19_code
def yX12_companyOf : MethodName := ⟨RX12, "companyOf", "(I)I"⟩
abbrev cX12_isWrittenNow : ByteArray := prog_14_method_20_code
def yX12_isWrittenNow : MethodName := ⟨RX12, "isWrittenNow", "(I)Z"⟩
abbrev cX12_lettersOf : ByteArray := prog_14_method_21_code
def yX12_lettersOf : MethodName := ⟨RX12, "lettersOf", "(I)I"⟩
abbrev cX12_wantsOf : ByteArray := prog_14_method_22_code
def yX12_wantsOf : MethodName := ⟨RX12, "wantsOf", "(I)I"⟩
abbrev cX12_oneNow : ByteArray := prog_14_method_23_code
def yX12_oneNow : MethodName := ⟨RX12, "oneNow", "(II)I"⟩
abbrev cX12_about : ByteArray := prog_14_method_24_code
def yX12_about : MethodName := ⟨RX12, "about", "(II)I"⟩
abbrev cX12_as : ByteArray := prog_14_method_25_code
def yX12_as : MethodName := ⟨RX12, "as", "(II)I"⟩
abbrev cX12_go : ByteArray := prog_14_method_26_code
def yX12_go : MethodName := ⟨RX12, "go", "(II)I"⟩
abbrev cX12_sell : ByteArray := prog_14_method_27_code
def yX12_sell : MethodName := ⟨RX12, "sell", "(III)I"⟩
abbrev cX12_with : ByteArray := prog_14_method_28_code
def yX12_with : MethodName := ⟨RX12, "with", "(IIZ)I"⟩
abbrev cX12_quarrel : ByteArray := prog_14_method_29_code
def yX12_quarrel : MethodName := ⟨RX12, "quarrel", "(IIZ)I"⟩
abbrev cX12_written : ByteArray := prog_14_method_30_code
def yX12_written : MethodName := ⟨RX12, "written", "(II)I"⟩
abbrev cX12_roomBy : ByteArray := prog_14_method_31_code
def yX12_roomBy : MethodName := ⟨RX12, "roomBy", "(II)I"⟩
abbrev cX12_movesBy : ByteArray := prog_14_method_32_code
def yX12_movesBy : MethodName := ⟨RX12, "movesBy", "(I)I"⟩
abbrev cX12_isWrittenIf : ByteArray := prog_14_method_33_code
def yX12_isWrittenIf : MethodName := ⟨RX12, "isWrittenIf", "(II)Z"⟩
abbrev cX12_movesNow : ByteArray := prog_14_method_34_code
def yX12_movesNow : MethodName := ⟨RX12, "movesNow", "(II)I"⟩
abbrev cX12_moves : ByteArray := prog_14_method_35_code
def yX12_moves : MethodName := ⟨RX12, "moves", "(II)I"⟩
abbrev cX12_layWritten : ByteArray := prog_14_method_36_code
def yX12_layWritten : MethodName := ⟨RX12, "layWritten", "()V"⟩
abbrev cX12_writtenBy : ByteArray := prog_14_method_37_code
def yX12_writtenBy : MethodName := ⟨RX12, "writtenBy", "(II)I"⟩
abbrev cX12_daysNow : ByteArray := prog_14_method_38_code
def yX12_daysNow : MethodName := ⟨RX12, "daysNow", "(II)I"⟩
abbrev cX12_days : ByteArray := prog_14_method_39_code
def yX12_days : MethodName := ⟨RX12, "days", "(II)I"⟩
abbrev cX12_hear : ByteArray := prog_14_method_40_code
def yX12_hear : MethodName := ⟨RX12, "hear", "(IIZ)I"⟩
abbrev cX12_forget : ByteArray := prog_14_method_41_code
def yX12_forget : MethodName := ⟨RX12, "forget", "()I"⟩
abbrev cX12_couldHold : ByteArray := prog_14_method_42_code
def yX12_couldHold : MethodName := ⟨RX12, "couldHold", "(III)Z"⟩
abbrev cX12_holdersNow : ByteArray := prog_14_method_43_code
def yX12_holdersNow : MethodName := ⟨RX12, "holdersNow", "(II)I"⟩
abbrev cX12_holders : ByteArray := prog_14_method_44_code
def yX12_holders : MethodName := ⟨RX12, "holders", "(II)I"⟩
abbrev cX12_writtenWays : ByteArray := prog_14_method_45_code
def yX12_writtenWays : MethodName := ⟨RX12, "writtenWays", "(II)I"⟩
abbrev cX12_inviteNow : ByteArray := prog_14_method_46_code
def yX12_inviteNow : MethodName := ⟨RX12, "inviteNow", "(I)I"⟩
abbrev cX12_invite : ByteArray := prog_14_method_47_code
def yX12_invite : MethodName := ⟨RX12, "invite", "(I)I"⟩
abbrev cX12_writtenAll : ByteArray := prog_14_method_48_code
def yX12_writtenAll : MethodName := ⟨RX12, "writtenAll", "()I"⟩
abbrev cX12_draw : ByteArray := prog_14_method_49_code
def yX12_draw : MethodName := ⟨RX12, "draw", "(I)I"⟩
abbrev cX12_yearsNow : ByteArray := prog_14_method_50_code
def yX12_yearsNow : MethodName := ⟨RX12, "yearsNow", "(III)I"⟩
abbrev cX12_years : ByteArray := prog_14_method_51_code
def yX12_years : MethodName := ⟨RX12, "years", "(III)I"⟩
abbrev cX12_image : ByteArray := prog_14_method_52_code
def yX12_image : MethodName := ⟨RX12, "image", "()I"⟩
abbrev cX12_restore : ByteArray := prog_14_method_53_code
def yX12_restore : MethodName := ⟨RX12, "restore", "()I"⟩
abbrev cX12_pairs : ByteArray := prog_14_method_54_code
def yX12_pairs : MethodName := ⟨RX12, "pairs", "()I"⟩
abbrev cX12_howMany : ByteArray := prog_14_method_55_code
def yX12_howMany : MethodName := ⟨RX12, "howMany", "(I)I"⟩
abbrev cX12_count : ByteArray := prog_14_method_56_code
def yX12_count : MethodName := ⟨RX12, "count", "(I)I"⟩
abbrev cX12_mix : ByteArray := prog_14_method_57_code
def yX12_mix : MethodName := ⟨RX12, "mix", "(J)V"⟩
abbrev cX12_digest : ByteArray := prog_14_method_58_code
def yX12_digest : MethodName := ⟨RX12, "digest", "()J"⟩
def RJ11 : String := "java/lang/Character"
def TJ11 : u_T := fun k => match k with
  | _ => ("", "", "", false)
def tyJ11 : Nat → FieldType := fun k => match k with
  | _ => .int
abbrev wsJ110 : List Cond := u_ws RJ11 TJ11 0
theorem nmJ11 : ∀ a, a < 0 → ∀ b, b < 0 → a ≠ b → (TJ11 a).2.1 ≠ (TJ11 b).2.1 := by decide +kernel
theorem tyJ11_ok : ∀ k, k < 0 → parseFieldDescriptor (TJ11 k).2.2.1 = some (tyJ11 k) := by decide +kernel
abbrev cJ11_isValidCodePoint_9a6ad : ByteArray := prog_15_method_11_code
def yJ11_isValidCodePoint_9a6ad : MethodName := ⟨RJ11, "isValidCodePoint", "(I)Z"⟩
abbrev cJ11_highSurrogate_5068e : ByteArray := prog_15_method_28_code
def yJ11_highSurrogate_5068e : MethodName := ⟨RJ11, "highSurrogate", "(I)C"⟩
abbrev cJ11_lowSurrogate_5068e : ByteArray := prog_15_method_29_code
def yJ11_lowSurrogate_5068e : MethodName := ⟨RJ11, "lowSurrogate", "(I)C"⟩
def RJ6 : String := "java/lang/Integer"
def TJ6 : u_T := fun k => match k with
  | _ => ("", "", "", false)
def tyJ6 : Nat → FieldType := fun k => match k with
  | _ => .int
abbrev wsJ60 : List Cond := u_ws RJ6 TJ6 0
theorem nmJ6 : ∀ a, a < 0 → ∀ b, b < 0 → a ≠ b → (TJ6 a).2.1 ≠ (TJ6 b).2.1 := by decide +kernel
theorem tyJ6_ok : ∀ k, k < 0 → parseFieldDescriptor (TJ6 k).2.2.1 = some (tyJ6 k) := by decide +kernel
abbrev cJ6_bitCount_0f7a4 : ByteArray := prog_16_method_49_code
def yJ6_bitCount_0f7a4 : MethodName := ⟨RJ6, "bitCount", "(I)I"⟩
def RJ9 : String := "java/lang/Math"
def TJ9 : u_T := fun k => match k with
  | _ => ("", "", "", false)
def tyJ9 : Nat → FieldType := fun k => match k with
  | _ => .int
abbrev wsJ90 : List Cond := u_ws RJ9 TJ9 0
theorem nmJ9 : ∀ a, a < 0 → ∀ b, b < 0 → a ≠ b → (TJ9 a).2.1 ≠ (TJ9 b).2.1 := by decide +kernel
theorem tyJ9_ok : ∀ k, k < 0 → parseFieldDescriptor (TJ9 k).2.2.1 = some (tyJ9 k) := by decide +kernel
abbrev cJ9_max_7cf53 : ByteArray := prog_17_method_65_code
def yJ9_max_7cf53 : MethodName := ⟨RJ9, "max", "(II)I"⟩
abbrev cJ9_min_7cf53 : ByteArray := prog_17_method_69_code
def yJ9_min_7cf53 : MethodName := ⟨RJ9, "min", "(II)I"⟩
def RJ0 : String := "java/lang/String"
def TJ0 : u_T := fun k => match k with
  | _ => ("", "", "", false)
def tyJ0 : Nat → FieldType := fun k => match k with
  | _ => .int
abbrev wsJ00 : List Cond := u_ws RJ0 TJ0 0
theorem nmJ0 : ∀ a, a < 0 → ∀ b, b < 0 → a ≠ b → (TJ0 a).2.1 ≠ (TJ0 b).2.1 := by decide +kernel
theorem tyJ0_ok : ∀ k, k < 0 → parseFieldDescriptor (TJ0 k).2.2.1 = some (tyJ0 k) := by decide +kernel
abbrev cJ0_length_8abf5 : ByteArray := prog_18_method_54_code
def yJ0_length_8abf5 : MethodName := ⟨RJ0, "length", "()I"⟩
abbrev cJ0_indexOf_0f7a4 : ByteArray := prog_18_method_79_code
def yJ0_indexOf_0f7a4 : MethodName := ⟨RJ0, "indexOf", "(I)I"⟩
abbrev cJ0_indexOf_7cf53 : ByteArray := prog_18_method_80_code
def yJ0_indexOf_7cf53 : MethodName := ⟨RJ0, "indexOf", "(II)I"⟩
abbrev cJ0_coder_7d493 : ByteArray := prog_18_method_152_code
def yJ0_coder_7d493 : MethodName := ⟨RJ0, "coder", "()B"⟩
abbrev cJ0_isLatin1_aae02 : ByteArray := prog_18_method_154_code
def yJ0_isLatin1_aae02 : MethodName := ⟨RJ0, "isLatin1", "()Z"⟩
abbrev cJ0_checkBoundsBeginEnd_23922 : ByteArray := prog_18_method_158_code
def yJ0_checkBoundsBeginEnd_23922 : MethodName := ⟨RJ0, "checkBoundsBeginEnd", "(III)V"⟩
def RJ1 : String := "java/lang/StringLatin1"
def TJ1 : u_T := fun k => match k with
  | _ => ("", "", "", false)
def tyJ1 : Nat → FieldType := fun k => match k with
  | _ => .int
abbrev wsJ10 : List Cond := u_ws RJ1 TJ1 0
theorem nmJ1 : ∀ a, a < 0 → ∀ b, b < 0 → a ≠ b → (TJ1 a).2.1 ≠ (TJ1 b).2.1 := by decide +kernel
theorem tyJ1_ok : ∀ k, k < 0 → parseFieldDescriptor (TJ1 k).2.2.1 = some (tyJ1 k) := by decide +kernel
abbrev cJ1_canEncode_9a6ad : ByteArray := prog_19_method_4_code
def yJ1_canEncode_9a6ad : MethodName := ⟨RJ1, "canEncode", "(I)Z"⟩
abbrev cJ1_indexOf_4cfef : ByteArray := prog_19_method_22_code
def yJ1_indexOf_4cfef : MethodName := ⟨RJ1, "indexOf", "([BIII)I"⟩
abbrev cJ1_indexOfChar_4cfef : ByteArray := prog_19_method_23_code
def yJ1_indexOfChar_4cfef : MethodName := ⟨RJ1, "indexOfChar", "([BIII)I"⟩
def RJ2 : String := "java/lang/StringUTF16"
def TJ2 : u_T := fun k => match k with
  | _ => ("", "", "", false)
def tyJ2 : Nat → FieldType := fun k => match k with
  | _ => .int
abbrev wsJ20 : List Cond := u_ws RJ2 TJ2 0
theorem nmJ2 : ∀ a, a < 0 → ∀ b, b < 0 → a ≠ b → (TJ2 a).2.1 ≠ (TJ2 b).2.1 := by decide +kernel
theorem tyJ2_ok : ∀ k, k < 0 → parseFieldDescriptor (TJ2 k).2.2.1 = some (tyJ2 k) := by decide +kernel
abbrev cJ2_getChar_3b067 : ByteArray := prog_20_method_5_code
def yJ2_getChar_3b067 : MethodName := ⟨RJ2, "getChar", "([BI)C"⟩
abbrev cJ2_length_9d52b : ByteArray := prog_20_method_6_code
def yJ2_length_9d52b : MethodName := ⟨RJ2, "length", "([B)I"⟩
abbrev cJ2_indexOf_4cfef : ByteArray := prog_20_method_40_code
def yJ2_indexOf_4cfef : MethodName := ⟨RJ2, "indexOf", "([BIII)I"⟩
abbrev cJ2_indexOfChar_4cfef : ByteArray := prog_20_method_47_code
def yJ2_indexOfChar_4cfef : MethodName := ⟨RJ2, "indexOfChar", "([BIII)I"⟩
abbrev cJ2_indexOfCharUnsafe_4cfef : ByteArray := prog_20_method_48_code
def yJ2_indexOfCharUnsafe_4cfef : MethodName := ⟨RJ2, "indexOfCharUnsafe", "([BIII)I"⟩
abbrev cJ2_indexOfSupplementary_4cfef : ByteArray := prog_20_method_49_code
def yJ2_indexOfSupplementary_4cfef : MethodName := ⟨RJ2, "indexOfSupplementary", "([BIII)I"⟩
abbrev cJ2_checkBoundsBeginEnd_d044e : ByteArray := prog_20_method_93_code
def yJ2_checkBoundsBeginEnd_d044e : MethodName := ⟨RJ2, "checkBoundsBeginEnd", "(II[B)V"⟩
def RJ3 : String := "jdk/internal/util/Preconditions"
def TJ3 : u_T := fun k => match k with
  | _ => ("", "", "", false)
def tyJ3 : Nat → FieldType := fun k => match k with
  | _ => .int
abbrev wsJ30 : List Cond := u_ws RJ3 TJ3 0
theorem nmJ3 : ∀ a, a < 0 → ∀ b, b < 0 → a ≠ b → (TJ3 a).2.1 ≠ (TJ3 b).2.1 := by decide +kernel
theorem tyJ3_ok : ∀ k, k < 0 → parseFieldDescriptor (TJ3 k).2.2.1 = some (tyJ3 k) := by decide +kernel
abbrev cJ3_checkFromToIndex_8c36e : ByteArray := prog_21_method_12_code
def yJ3_checkFromToIndex_8c36e : MethodName := ⟨RJ3, "checkFromToIndex", "(IIILjava/util/function/BiFunction;)I"⟩
def RL : String := "SpeltByFriendsLaw"
abbrev cL_law : ByteArray := code
def yL_law : MethodName := ⟨RL, "law", "([I)Z"⟩
def wsX6_init : List Cond := .code yX6_init cX6_init 2 none :: ([.methodLink RX6 1 objectInit, .instanceMethod objectInit, .code objectInit ⟨#[0xb1]⟩ 1 none, .fieldLink RX6 7 "SpeltByFriends$Person" "kind" "I"] ++ wsX00 ++ wsX20 ++ wsX60 ++ wsX80 ++ wsX100)
def wsX0_init : List Cond := .code yX0_init cX0_init 2 none :: ([.methodLink RX0 1 yX6_init, .instanceMethod yX6_init, .initialized RX6, .code yX6_init cX6_init 2 none, .methodLink RX6 1 objectInit, .instanceMethod objectInit, .code objectInit ⟨#[0xb1]⟩ 1 none, .fieldLink RX6 7 "SpeltByFriends$Person" "kind" "I"] ++ wsX00 ++ wsX20 ++ wsX60 ++ wsX80 ++ wsX100)
def wsX0_isSpelt : List Cond := .code yX0_isSpelt cX0_isSpelt 5 (some .boolean) :: ([])
def wsX1_init : List Cond := .code yX1_init cX1_init 1 none :: ([.methodLink RX1 3 objectInit, .instanceMethod objectInit, .code objectInit ⟨#[0xb1]⟩ 1 none, .arrayClass .int, .fieldLink RX1 9 "SpeltByFriends$Guesses" "firsts" "[I", .fieldLink RX1 15 "SpeltByFriends$Guesses" "lasts" "[I"] ++ wsX10)
def wsX11_at : List Cond := .code yX11_at cX11_at 2 (some .int) :: ([])
def wsX9_has : List Cond := .code yX9_has cX9_has 2 (some .boolean) :: ([.fieldLink RX9 56 "SpeltByFriends$Town" "size" "I"] ++ wsX90)
def wsX9_personAt : List Cond := .code yX9_personAt cX9_personAt 2 (some (.object "SpeltByFriends$Person")) :: ([.fieldLink RX9 39 "SpeltByFriends$Town" "people" "[LSpeltByFriends$Person;", .methodLink RX9 82 yX9_has, .instanceMethod yX9_has, .selects RX9 yX9_has yX9_has, .initialized RX9, .code yX9_has cX9_has 2 (some .boolean), .fieldLink RX9 56 "SpeltByFriends$Town" "size" "I"] ++ wsX90)
def wsX6_isSpelt : List Cond := .code yX6_isSpelt cX6_isSpelt 5 (some .boolean) :: ([])
def wsX2_isSpelt : List Cond := .code yX2_isSpelt cX2_isSpelt 5 (some .boolean) :: ([])
def wsX8_isSpelt : List Cond := .code yX8_isSpelt cX8_isSpelt 5 (some .boolean) :: ([])
def wsX10_isSpelt : List Cond := .code yX10_isSpelt cX10_isSpelt 5 (some .boolean) :: ([])
def wsX9_couldWrite_r1 : List Cond := [Cond.fieldLink RX9 12 "SpeltByFriends$Town" "ledger" "LSpeltByFriends$Ledger;", Cond.fieldLink RX9 103 "SpeltByFriends$Ledger" "foes" "[I", Cond.methodLink RX9 85 yX9_personAt, Cond.instanceMethod yX9_personAt, Cond.selects RX9 yX9_personAt yX9_personAt, Cond.initialized RX9, Cond.code yX9_personAt cX9_personAt 2 (some (.object "SpeltByFriends$Person")), Cond.fieldLink RX9 39 "SpeltByFriends$Town" "people" "[LSpeltByFriends$Person;", Cond.methodLink RX9 82 yX9_has, Cond.instanceMethod yX9_has, Cond.selects RX9 yX9_has yX9_has, Cond.code yX9_has cX9_has 2 (some .boolean), Cond.fieldLink RX9 56 "SpeltByFriends$Town" "size" "I", Cond.static yX11_at, Cond.initialized RX11, Cond.code yX11_at cX11_at 2 (some .int), Cond.methodLink RX9 106 ⟨"SpeltByFriends$Person", "isSpelt", "(ZZII)Z"⟩, Cond.sameMethod "SpeltByFriends$Person" "SpeltByFriends$Person" "isSpelt" "(ZZII)Z", Cond.instanceMethod ⟨"SpeltByFriends$Person", "isSpelt", "(ZZII)Z"⟩, Cond.selects RX0 ⟨"SpeltByFriends$Person", "isSpelt", "(ZZII)Z"⟩ yX0_isSpelt, Cond.instanceMethod yX0_isSpelt, Cond.initialized RX0, Cond.code yX0_isSpelt cX0_isSpelt 5 (some .boolean), Cond.code yX6_isSpelt cX6_isSpelt 5 (some .boolean)]
def wsX9_couldWrite_r2 : List Cond := [Cond.selects RX2 ⟨"SpeltByFriends$Person", "isSpelt", "(ZZII)Z"⟩ yX2_isSpelt, Cond.instanceMethod yX2_isSpelt, Cond.initialized RX2, Cond.code yX2_isSpelt cX2_isSpelt 5 (some .boolean), Cond.methodLink RX9 106 yX6_isSpelt, Cond.instanceMethod yX6_isSpelt, Cond.selects RX6 yX6_isSpelt yX6_isSpelt, Cond.initialized RX6, Cond.selects RX8 ⟨"SpeltByFriends$Person", "isSpelt", "(ZZII)Z"⟩ yX8_isSpelt, Cond.instanceMethod yX8_isSpelt, Cond.initialized RX8, Cond.code yX8_isSpelt cX8_isSpelt 5 (some .boolean), Cond.selects RX10 ⟨"SpeltByFriends$Person", "isSpelt", "(ZZII)Z"⟩ yX10_isSpelt, Cond.instanceMethod yX10_isSpelt, Cond.initialized RX10, Cond.code yX10_isSpelt cX10_isSpelt 5 (some .boolean)]
def wsX9_couldWrite : List Cond := .code yX9_couldWrite cX9_couldWrite 11 (some .boolean) :: ((wsX9_couldWrite_r1 ++ wsX9_couldWrite_r2) ++ wsX90 ++ wsX30)
def wsX1_agrees_r1 : List Cond := [Cond.fieldLink RX1 38 "SpeltByFriends$Town" "ledger" "LSpeltByFriends$Ledger;", Cond.fieldLink RX1 42 "SpeltByFriends$Ledger" "heard" "I", Cond.fieldLink RX1 47 "SpeltByFriends$Ledger" "heardOf" "[I", Cond.fieldLink RX1 18 "SpeltByFriends$Guesses" "person" "I", Cond.fieldLink RX1 54 "SpeltByFriends$Ledger" "heardIn" "[I", Cond.fieldLink RX1 61 "SpeltByFriends$Ledger" "heardYes" "[I", Cond.static yX11_at, Cond.initialized RX11, Cond.code yX11_at cX11_at 2 (some .int), Cond.methodLink RX1 57 yX9_couldWrite, Cond.instanceMethod yX9_couldWrite, Cond.selects RX9 yX9_couldWrite yX9_couldWrite, Cond.initialized RX9, Cond.code yX9_couldWrite cX9_couldWrite 11 (some .boolean), Cond.fieldLink RX9 12 "SpeltByFriends$Town" "ledger" "LSpeltByFriends$Ledger;", Cond.fieldLink RX9 103 "SpeltByFriends$Ledger" "foes" "[I", Cond.methodLink RX9 85 yX9_personAt, Cond.instanceMethod yX9_personAt, Cond.selects RX9 yX9_personAt yX9_personAt, Cond.code yX9_personAt cX9_personAt 2 (some (.object "SpeltByFriends$Person")), Cond.fieldLink RX9 39 "SpeltByFriends$Town" "people" "[LSpeltByFriends$Person;", Cond.methodLink RX9 82 yX9_has, Cond.instanceMethod yX9_has, Cond.selects RX9 yX9_has yX9_has]
def wsX1_agrees_r2 : List Cond := [Cond.code yX9_has cX9_has 2 (some .boolean), Cond.fieldLink RX9 56 "SpeltByFriends$Town" "size" "I", Cond.methodLink RX9 106 ⟨"SpeltByFriends$Person", "isSpelt", "(ZZII)Z"⟩, Cond.sameMethod "SpeltByFriends$Person" "SpeltByFriends$Person" "isSpelt" "(ZZII)Z", Cond.instanceMethod ⟨"SpeltByFriends$Person", "isSpelt", "(ZZII)Z"⟩, Cond.selects RX0 ⟨"SpeltByFriends$Person", "isSpelt", "(ZZII)Z"⟩ yX0_isSpelt, Cond.instanceMethod yX0_isSpelt, Cond.initialized RX0, Cond.code yX0_isSpelt cX0_isSpelt 5 (some .boolean), Cond.code yX6_isSpelt cX6_isSpelt 5 (some .boolean), Cond.selects RX2 ⟨"SpeltByFriends$Person", "isSpelt", "(ZZII)Z"⟩ yX2_isSpelt, Cond.instanceMethod yX2_isSpelt, Cond.initialized RX2, Cond.code yX2_isSpelt cX2_isSpelt 5 (some .boolean), Cond.methodLink RX9 106 yX6_isSpelt, Cond.instanceMethod yX6_isSpelt, Cond.selects RX6 yX6_isSpelt yX6_isSpelt, Cond.initialized RX6, Cond.selects RX8 ⟨"SpeltByFriends$Person", "isSpelt", "(ZZII)Z"⟩ yX8_isSpelt, Cond.instanceMethod yX8_isSpelt, Cond.initialized RX8, Cond.code yX8_isSpelt cX8_isSpelt 5 (some .boolean), Cond.selects RX10 ⟨"SpeltByFriends$Person", "isSpelt", "(ZZII)Z"⟩ yX10_isSpelt, Cond.instanceMethod yX10_isSpelt]
def wsX1_agrees_r3 : List Cond := [Cond.initialized RX10, Cond.code yX10_isSpelt cX10_isSpelt 5 (some .boolean)]
def wsX1_agrees : List Cond := .code yX1_agrees cX1_agrees 7 (some .boolean) :: ((wsX1_agrees_r1 ++ (wsX1_agrees_r2 ++ wsX1_agrees_r3)) ++ wsX90 ++ wsX30 ++ wsX10)
def wsX11_put : List Cond := .code yX11_put cX11_put 3 none :: ([])
def wsX1_gather_r1 : List Cond := [Cond.fieldLink RX1 18 "SpeltByFriends$Guesses" "person" "I", Cond.fieldLink RX1 22 "SpeltByFriends$Guesses" "many" "I", Cond.fieldLink RX1 25 "SpeltByFriends$Town" "size" "I", Cond.fieldLink RX1 9 "SpeltByFriends$Guesses" "firsts" "[I", Cond.fieldLink RX1 15 "SpeltByFriends$Guesses" "lasts" "[I", Cond.methodLink RX1 30 yX1_agrees, Cond.instanceMethod yX1_agrees, Cond.selects RX1 yX1_agrees yX1_agrees, Cond.initialized RX1, Cond.code yX1_agrees cX1_agrees 7 (some .boolean), Cond.fieldLink RX1 38 "SpeltByFriends$Town" "ledger" "LSpeltByFriends$Ledger;", Cond.fieldLink RX1 42 "SpeltByFriends$Ledger" "heard" "I", Cond.fieldLink RX1 47 "SpeltByFriends$Ledger" "heardOf" "[I", Cond.fieldLink RX1 54 "SpeltByFriends$Ledger" "heardIn" "[I", Cond.fieldLink RX1 61 "SpeltByFriends$Ledger" "heardYes" "[I", Cond.static yX11_at, Cond.initialized RX11, Cond.code yX11_at cX11_at 2 (some .int), Cond.methodLink RX1 57 yX9_couldWrite, Cond.instanceMethod yX9_couldWrite, Cond.selects RX9 yX9_couldWrite yX9_couldWrite, Cond.initialized RX9, Cond.code yX9_couldWrite cX9_couldWrite 11 (some .boolean), Cond.fieldLink RX9 12 "SpeltByFriends$Town" "ledger" "LSpeltByFriends$Ledger;"]
def wsX1_gather_r2 : List Cond := [Cond.fieldLink RX9 103 "SpeltByFriends$Ledger" "foes" "[I", Cond.methodLink RX9 85 yX9_personAt, Cond.instanceMethod yX9_personAt, Cond.selects RX9 yX9_personAt yX9_personAt, Cond.code yX9_personAt cX9_personAt 2 (some (.object "SpeltByFriends$Person")), Cond.fieldLink RX9 39 "SpeltByFriends$Town" "people" "[LSpeltByFriends$Person;", Cond.methodLink RX9 82 yX9_has, Cond.instanceMethod yX9_has, Cond.selects RX9 yX9_has yX9_has, Cond.code yX9_has cX9_has 2 (some .boolean), Cond.fieldLink RX9 56 "SpeltByFriends$Town" "size" "I", Cond.methodLink RX9 106 ⟨"SpeltByFriends$Person", "isSpelt", "(ZZII)Z"⟩, Cond.sameMethod "SpeltByFriends$Person" "SpeltByFriends$Person" "isSpelt" "(ZZII)Z", Cond.instanceMethod ⟨"SpeltByFriends$Person", "isSpelt", "(ZZII)Z"⟩, Cond.selects RX0 ⟨"SpeltByFriends$Person", "isSpelt", "(ZZII)Z"⟩ yX0_isSpelt, Cond.instanceMethod yX0_isSpelt, Cond.initialized RX0, Cond.code yX0_isSpelt cX0_isSpelt 5 (some .boolean), Cond.code yX6_isSpelt cX6_isSpelt 5 (some .boolean), Cond.selects RX2 ⟨"SpeltByFriends$Person", "isSpelt", "(ZZII)Z"⟩ yX2_isSpelt, Cond.instanceMethod yX2_isSpelt, Cond.initialized RX2, Cond.code yX2_isSpelt cX2_isSpelt 5 (some .boolean), Cond.methodLink RX9 106 yX6_isSpelt]
def wsX1_gather_r3 : List Cond := [Cond.instanceMethod yX6_isSpelt, Cond.selects RX6 yX6_isSpelt yX6_isSpelt, Cond.initialized RX6, Cond.selects RX8 ⟨"SpeltByFriends$Person", "isSpelt", "(ZZII)Z"⟩ yX8_isSpelt, Cond.instanceMethod yX8_isSpelt, Cond.initialized RX8, Cond.code yX8_isSpelt cX8_isSpelt 5 (some .boolean), Cond.selects RX10 ⟨"SpeltByFriends$Person", "isSpelt", "(ZZII)Z"⟩ yX10_isSpelt, Cond.instanceMethod yX10_isSpelt, Cond.initialized RX10, Cond.code yX10_isSpelt cX10_isSpelt 5 (some .boolean), Cond.static yX11_put, Cond.code yX11_put cX11_put 3 none]
def wsX1_gather : List Cond := .code yX1_gather cX1_gather 5 none :: ((wsX1_gather_r1 ++ (wsX1_gather_r2 ++ wsX1_gather_r3)) ++ wsX10 ++ wsX90 ++ wsX30)
def wsX1_least : List Cond := .code yX1_least cX1_least 1 (some .int) :: ([.fieldLink RX1 22 "SpeltByFriends$Guesses" "many" "I", .fieldLink RX1 9 "SpeltByFriends$Guesses" "firsts" "[I", .fieldLink RX1 15 "SpeltByFriends$Guesses" "lasts" "[I", .static yX11_at, .initialized RX11, .code yX11_at cX11_at 2 (some .int)] ++ wsX10)
def wsX9_isSetOfPeople : List Cond := .code yX9_isSetOfPeople cX9_isSetOfPeople 2 (some .boolean) :: ([.fieldLink RX9 56 "SpeltByFriends$Town" "size" "I"] ++ wsX90)
def wsX9_isCompanyOf : List Cond := .code yX9_isCompanyOf cX9_isCompanyOf 3 (some .boolean) :: ([.methodLink RX9 78 yX9_isSetOfPeople, .instanceMethod yX9_isSetOfPeople, .selects RX9 yX9_isSetOfPeople yX9_isSetOfPeople, .initialized RX9, .code yX9_isSetOfPeople cX9_isSetOfPeople 2 (some .boolean), .fieldLink RX9 56 "SpeltByFriends$Town" "size" "I"] ++ wsX90)
def wsX1_leftAtWorst_r1 : List Cond := [Cond.fieldLink RX1 22 "SpeltByFriends$Guesses" "many" "I", Cond.fieldLink RX1 18 "SpeltByFriends$Guesses" "person" "I", Cond.fieldLink RX1 9 "SpeltByFriends$Guesses" "firsts" "[I", Cond.fieldLink RX1 15 "SpeltByFriends$Guesses" "lasts" "[I", Cond.methodLink RX1 72 Lib.Math.max.name, Cond.static Lib.Math.max.name, Cond.initialized "java/lang/Math", Cond.code Lib.Math.max.name Lib.Math.max.code 2 (some .int), Cond.static yX11_at, Cond.initialized RX11, Cond.code yX11_at cX11_at 2 (some .int), Cond.methodLink RX1 57 yX9_couldWrite, Cond.instanceMethod yX9_couldWrite, Cond.selects RX9 yX9_couldWrite yX9_couldWrite, Cond.initialized RX9, Cond.code yX9_couldWrite cX9_couldWrite 11 (some .boolean), Cond.fieldLink RX9 12 "SpeltByFriends$Town" "ledger" "LSpeltByFriends$Ledger;", Cond.fieldLink RX9 103 "SpeltByFriends$Ledger" "foes" "[I", Cond.methodLink RX9 85 yX9_personAt, Cond.instanceMethod yX9_personAt, Cond.selects RX9 yX9_personAt yX9_personAt, Cond.code yX9_personAt cX9_personAt 2 (some (.object "SpeltByFriends$Person")), Cond.fieldLink RX9 39 "SpeltByFriends$Town" "people" "[LSpeltByFriends$Person;", Cond.methodLink RX9 82 yX9_has]
def wsX1_leftAtWorst_r2 : List Cond := [Cond.instanceMethod yX9_has, Cond.selects RX9 yX9_has yX9_has, Cond.code yX9_has cX9_has 2 (some .boolean), Cond.fieldLink RX9 56 "SpeltByFriends$Town" "size" "I", Cond.methodLink RX9 106 ⟨"SpeltByFriends$Person", "isSpelt", "(ZZII)Z"⟩, Cond.sameMethod "SpeltByFriends$Person" "SpeltByFriends$Person" "isSpelt" "(ZZII)Z", Cond.instanceMethod ⟨"SpeltByFriends$Person", "isSpelt", "(ZZII)Z"⟩, Cond.selects RX0 ⟨"SpeltByFriends$Person", "isSpelt", "(ZZII)Z"⟩ yX0_isSpelt, Cond.instanceMethod yX0_isSpelt, Cond.initialized RX0, Cond.code yX0_isSpelt cX0_isSpelt 5 (some .boolean), Cond.code yX6_isSpelt cX6_isSpelt 5 (some .boolean), Cond.selects RX2 ⟨"SpeltByFriends$Person", "isSpelt", "(ZZII)Z"⟩ yX2_isSpelt, Cond.instanceMethod yX2_isSpelt, Cond.initialized RX2, Cond.code yX2_isSpelt cX2_isSpelt 5 (some .boolean), Cond.methodLink RX9 106 yX6_isSpelt, Cond.instanceMethod yX6_isSpelt, Cond.selects RX6 yX6_isSpelt yX6_isSpelt, Cond.initialized RX6, Cond.selects RX8 ⟨"SpeltByFriends$Person", "isSpelt", "(ZZII)Z"⟩ yX8_isSpelt, Cond.instanceMethod yX8_isSpelt, Cond.initialized RX8, Cond.code yX8_isSpelt cX8_isSpelt 5 (some .boolean)]
def wsX1_leftAtWorst_r3 : List Cond := [Cond.selects RX10 ⟨"SpeltByFriends$Person", "isSpelt", "(ZZII)Z"⟩ yX10_isSpelt, Cond.instanceMethod yX10_isSpelt, Cond.initialized RX10, Cond.code yX10_isSpelt cX10_isSpelt 5 (some .boolean)]
def wsX1_leftAtWorst : List Cond := .code yX1_leftAtWorst cX1_leftAtWorst 5 (some .int) :: ((wsX1_leftAtWorst_r1 ++ (wsX1_leftAtWorst_r2 ++ wsX1_leftAtWorst_r3)) ++ wsX10 ++ wsX90 ++ wsX30)
def wsX1_bestCompany_r1 : List Cond := [Cond.fieldLink RX1 22 "SpeltByFriends$Guesses" "many" "I", Cond.fieldLink RX1 25 "SpeltByFriends$Town" "size" "I", Cond.fieldLink RX1 18 "SpeltByFriends$Guesses" "person" "I", Cond.methodLink RX1 64 yX9_isCompanyOf, Cond.instanceMethod yX9_isCompanyOf, Cond.selects RX9 yX9_isCompanyOf yX9_isCompanyOf, Cond.initialized RX9, Cond.code yX9_isCompanyOf cX9_isCompanyOf 3 (some .boolean), Cond.methodLink RX9 78 yX9_isSetOfPeople, Cond.instanceMethod yX9_isSetOfPeople, Cond.selects RX9 yX9_isSetOfPeople yX9_isSetOfPeople, Cond.code yX9_isSetOfPeople cX9_isSetOfPeople 2 (some .boolean), Cond.fieldLink RX9 56 "SpeltByFriends$Town" "size" "I", Cond.methodLink RX1 68 yX1_leftAtWorst, Cond.instanceMethod yX1_leftAtWorst, Cond.selects RX1 yX1_leftAtWorst yX1_leftAtWorst, Cond.initialized RX1, Cond.code yX1_leftAtWorst cX1_leftAtWorst 5 (some .int), Cond.fieldLink RX1 9 "SpeltByFriends$Guesses" "firsts" "[I", Cond.fieldLink RX1 15 "SpeltByFriends$Guesses" "lasts" "[I", Cond.methodLink RX1 72 Lib.Math.max.name, Cond.static Lib.Math.max.name, Cond.initialized "java/lang/Math", Cond.code Lib.Math.max.name Lib.Math.max.code 2 (some .int)]
def wsX1_bestCompany_r2 : List Cond := [Cond.static yX11_at, Cond.initialized RX11, Cond.code yX11_at cX11_at 2 (some .int), Cond.methodLink RX1 57 yX9_couldWrite, Cond.instanceMethod yX9_couldWrite, Cond.selects RX9 yX9_couldWrite yX9_couldWrite, Cond.code yX9_couldWrite cX9_couldWrite 11 (some .boolean), Cond.fieldLink RX9 12 "SpeltByFriends$Town" "ledger" "LSpeltByFriends$Ledger;", Cond.fieldLink RX9 103 "SpeltByFriends$Ledger" "foes" "[I", Cond.methodLink RX9 85 yX9_personAt, Cond.instanceMethod yX9_personAt, Cond.selects RX9 yX9_personAt yX9_personAt, Cond.code yX9_personAt cX9_personAt 2 (some (.object "SpeltByFriends$Person")), Cond.fieldLink RX9 39 "SpeltByFriends$Town" "people" "[LSpeltByFriends$Person;", Cond.methodLink RX9 82 yX9_has, Cond.instanceMethod yX9_has, Cond.selects RX9 yX9_has yX9_has, Cond.code yX9_has cX9_has 2 (some .boolean), Cond.methodLink RX9 106 ⟨"SpeltByFriends$Person", "isSpelt", "(ZZII)Z"⟩, Cond.sameMethod "SpeltByFriends$Person" "SpeltByFriends$Person" "isSpelt" "(ZZII)Z", Cond.instanceMethod ⟨"SpeltByFriends$Person", "isSpelt", "(ZZII)Z"⟩, Cond.selects RX0 ⟨"SpeltByFriends$Person", "isSpelt", "(ZZII)Z"⟩ yX0_isSpelt, Cond.instanceMethod yX0_isSpelt, Cond.initialized RX0]
def wsX1_bestCompany_r3 : List Cond := [Cond.code yX0_isSpelt cX0_isSpelt 5 (some .boolean), Cond.code yX6_isSpelt cX6_isSpelt 5 (some .boolean), Cond.selects RX2 ⟨"SpeltByFriends$Person", "isSpelt", "(ZZII)Z"⟩ yX2_isSpelt, Cond.instanceMethod yX2_isSpelt, Cond.initialized RX2, Cond.code yX2_isSpelt cX2_isSpelt 5 (some .boolean), Cond.methodLink RX9 106 yX6_isSpelt, Cond.instanceMethod yX6_isSpelt, Cond.selects RX6 yX6_isSpelt yX6_isSpelt, Cond.initialized RX6, Cond.selects RX8 ⟨"SpeltByFriends$Person", "isSpelt", "(ZZII)Z"⟩ yX8_isSpelt, Cond.instanceMethod yX8_isSpelt, Cond.initialized RX8, Cond.code yX8_isSpelt cX8_isSpelt 5 (some .boolean), Cond.selects RX10 ⟨"SpeltByFriends$Person", "isSpelt", "(ZZII)Z"⟩ yX10_isSpelt, Cond.instanceMethod yX10_isSpelt, Cond.initialized RX10, Cond.code yX10_isSpelt cX10_isSpelt 5 (some .boolean)]
def wsX1_bestCompany : List Cond := .code yX1_bestCompany cX1_bestCompany 6 (some .int) :: ((wsX1_bestCompany_r1 ++ (wsX1_bestCompany_r2 ++ wsX1_bestCompany_r3)) ++ wsX10 ++ wsX90 ++ wsX30)
def wsX2_init : List Cond := .code yX2_init cX2_init 1 none :: ([.methodLink RX2 1 yX6_init, .instanceMethod yX6_init, .initialized RX6, .code yX6_init cX6_init 2 none, .methodLink RX6 1 objectInit, .instanceMethod objectInit, .code objectInit ⟨#[0xb1]⟩ 1 none, .fieldLink RX6 7 "SpeltByFriends$Person" "kind" "I"] ++ wsX00 ++ wsX20 ++ wsX60 ++ wsX80 ++ wsX100)
def wsX3_init : List Cond := .code yX3_init cX3_init 1 none :: ([.methodLink RX3 3 objectInit, .instanceMethod objectInit, .code objectInit ⟨#[0xb1]⟩ 1 none, .arrayClass .int, .fieldLink RX3 9 "SpeltByFriends$Ledger" "firstHolder" "[I", .fieldLink RX3 15 "SpeltByFriends$Ledger" "lastHolder" "[I", .fieldLink RX3 18 "SpeltByFriends$Ledger" "foes" "[I", .fieldLink RX3 21 "SpeltByFriends$Ledger" "heardOf" "[I", .fieldLink RX3 24 "SpeltByFriends$Ledger" "heardIn" "[I", .fieldLink RX3 27 "SpeltByFriends$Ledger" "heardYes" "[I"] ++ wsX30)
def wsX3_clear : List Cond := .code yX3_clear cX3_clear 2 none :: ([.fieldLink RX3 9 "SpeltByFriends$Ledger" "firstHolder" "[I", .fieldLink RX3 15 "SpeltByFriends$Ledger" "lastHolder" "[I", .fieldLink RX3 18 "SpeltByFriends$Ledger" "foes" "[I", .fieldLink RX3 34 "SpeltByFriends$Ledger" "rooms" "I", .fieldLink RX3 38 "SpeltByFriends$Ledger" "heard" "I", .fieldLink RX3 41 "SpeltByFriends$Ledger" "went" "I", .fieldLink RX3 44 "SpeltByFriends$Ledger" "sold" "I", .static yX11_put, .initialized RX11, .code yX11_put cX11_put 3 none] ++ wsX30)
def wsX3_copy : List Cond := .code yX3_copy cX3_copy 3 none :: ([.fieldLink RX3 9 "SpeltByFriends$Ledger" "firstHolder" "[I", .fieldLink RX3 15 "SpeltByFriends$Ledger" "lastHolder" "[I", .fieldLink RX3 18 "SpeltByFriends$Ledger" "foes" "[I", .fieldLink RX3 21 "SpeltByFriends$Ledger" "heardOf" "[I", .fieldLink RX3 24 "SpeltByFriends$Ledger" "heardIn" "[I", .fieldLink RX3 27 "SpeltByFriends$Ledger" "heardYes" "[I", .fieldLink RX3 34 "SpeltByFriends$Ledger" "rooms" "I", .fieldLink RX3 38 "SpeltByFriends$Ledger" "heard" "I", .fieldLink RX3 41 "SpeltByFriends$Ledger" "went" "I", .fieldLink RX3 44 "SpeltByFriends$Ledger" "sold" "I", .static yX11_at, .initialized RX11, .code yX11_at cX11_at 2 (some .int), .static yX11_put, .code yX11_put cX11_put 3 none] ++ wsX30)
def wsX3_setFoe : List Cond := .code yX3_setFoe cX3_setFoe 5 none :: ([.fieldLink RX3 18 "SpeltByFriends$Ledger" "foes" "[I", .static yX11_at, .initialized RX11, .code yX11_at cX11_at 2 (some .int), .static yX11_put, .code yX11_put cX11_put 3 none] ++ wsX30)
def wsX3_addHeard : List Cond := .code yX3_addHeard cX3_addHeard 4 none :: ([.fieldLink RX3 21 "SpeltByFriends$Ledger" "heardOf" "[I", .fieldLink RX3 38 "SpeltByFriends$Ledger" "heard" "I", .fieldLink RX3 24 "SpeltByFriends$Ledger" "heardIn" "[I", .fieldLink RX3 27 "SpeltByFriends$Ledger" "heardYes" "[I", .static yX11_put, .initialized RX11, .code yX11_put cX11_put 3 none] ++ wsX30)
def wsX4_init : List Cond := .code yX4_init cX4_init 1 none :: ([.methodLink RX4 3 objectInit, .instanceMethod objectInit, .code objectInit ⟨#[0xb1]⟩ 1 none])
def wsX4_draw : List Cond := .code yX4_draw cX4_draw 2 (some .int) :: ([.constantLong RX4 46 (1103515245), .fieldLink RX4 9 "SpeltByFriends$Lottery" "seed" "I", .constantLong RX4 48 (12345), .constantLong RX4 50 (2147483647)] ++ wsX40)
def wsX11_shiftOf : List Cond := .code yX11_shiftOf cX11_shiftOf 1 (some .int) :: ([])
def wsX11_withRoom : List Cond := .code yX11_withRoom cX11_withRoom 4 (some .int) :: ([.methodLink RX11 239 yX11_shiftOf, .static yX11_shiftOf, .initialized RX11, .code yX11_shiftOf cX11_shiftOf 1 (some .int)])
def wsX11_roomIn : List Cond := .code yX11_roomIn cX11_roomIn 2 (some .int) :: ([.methodLink RX11 239 yX11_shiftOf, .static yX11_shiftOf, .initialized RX11, .code yX11_shiftOf cX11_shiftOf 1 (some .int)])
def wsX9_companyIn : List Cond := .code yX9_companyIn cX9_companyIn 6 (some .int) :: ([.fieldLink RX9 56 "SpeltByFriends$Town" "size" "I", .static yX11_roomIn, .initialized RX11, .code yX11_roomIn cX11_roomIn 2 (some .int), .methodLink RX11 239 yX11_shiftOf, .static yX11_shiftOf, .code yX11_shiftOf cX11_shiftOf 1 (some .int)] ++ wsX90)
def wsX9_canWrite_r1 : List Cond := [Cond.fieldLink RX9 12 "SpeltByFriends$Town" "ledger" "LSpeltByFriends$Ledger;", Cond.fieldLink RX9 64 "SpeltByFriends$Ledger" "firstHolder" "[I", Cond.fieldLink RX9 75 "SpeltByFriends$Ledger" "lastHolder" "[I", Cond.static yX11_at, Cond.initialized RX11, Cond.code yX11_at cX11_at 2 (some .int), Cond.methodLink RX9 99 yX9_couldWrite, Cond.instanceMethod yX9_couldWrite, Cond.selects RX9 yX9_couldWrite yX9_couldWrite, Cond.initialized RX9, Cond.code yX9_couldWrite cX9_couldWrite 11 (some .boolean), Cond.fieldLink RX9 103 "SpeltByFriends$Ledger" "foes" "[I", Cond.methodLink RX9 85 yX9_personAt, Cond.instanceMethod yX9_personAt, Cond.selects RX9 yX9_personAt yX9_personAt, Cond.code yX9_personAt cX9_personAt 2 (some (.object "SpeltByFriends$Person")), Cond.fieldLink RX9 39 "SpeltByFriends$Town" "people" "[LSpeltByFriends$Person;", Cond.methodLink RX9 82 yX9_has, Cond.instanceMethod yX9_has, Cond.selects RX9 yX9_has yX9_has, Cond.code yX9_has cX9_has 2 (some .boolean), Cond.fieldLink RX9 56 "SpeltByFriends$Town" "size" "I", Cond.methodLink RX9 106 ⟨"SpeltByFriends$Person", "isSpelt", "(ZZII)Z"⟩, Cond.sameMethod "SpeltByFriends$Person" "SpeltByFriends$Person" "isSpelt" "(ZZII)Z"]
def wsX9_canWrite_r2 : List Cond := [Cond.instanceMethod ⟨"SpeltByFriends$Person", "isSpelt", "(ZZII)Z"⟩, Cond.selects RX0 ⟨"SpeltByFriends$Person", "isSpelt", "(ZZII)Z"⟩ yX0_isSpelt, Cond.instanceMethod yX0_isSpelt, Cond.initialized RX0, Cond.code yX0_isSpelt cX0_isSpelt 5 (some .boolean), Cond.code yX6_isSpelt cX6_isSpelt 5 (some .boolean), Cond.selects RX2 ⟨"SpeltByFriends$Person", "isSpelt", "(ZZII)Z"⟩ yX2_isSpelt, Cond.instanceMethod yX2_isSpelt, Cond.initialized RX2, Cond.code yX2_isSpelt cX2_isSpelt 5 (some .boolean), Cond.methodLink RX9 106 yX6_isSpelt, Cond.instanceMethod yX6_isSpelt, Cond.selects RX6 yX6_isSpelt yX6_isSpelt, Cond.initialized RX6, Cond.selects RX8 ⟨"SpeltByFriends$Person", "isSpelt", "(ZZII)Z"⟩ yX8_isSpelt, Cond.instanceMethod yX8_isSpelt, Cond.initialized RX8, Cond.code yX8_isSpelt cX8_isSpelt 5 (some .boolean), Cond.selects RX10 ⟨"SpeltByFriends$Person", "isSpelt", "(ZZII)Z"⟩ yX10_isSpelt, Cond.instanceMethod yX10_isSpelt, Cond.initialized RX10, Cond.code yX10_isSpelt cX10_isSpelt 5 (some .boolean)]
def wsX9_canWrite : List Cond := .code yX9_canWrite cX9_canWrite 3 (some .boolean) :: ((wsX9_canWrite_r1 ++ wsX9_canWrite_r2) ++ wsX90 ++ wsX30)
def wsX9_howManyWritten_r1 : List Cond := [Cond.fieldLink RX9 56 "SpeltByFriends$Town" "size" "I", Cond.methodLink RX9 110 yX9_companyIn, Cond.instanceMethod yX9_companyIn, Cond.selects RX9 yX9_companyIn yX9_companyIn, Cond.initialized RX9, Cond.code yX9_companyIn cX9_companyIn 6 (some .int), Cond.static yX11_roomIn, Cond.initialized RX11, Cond.code yX11_roomIn cX11_roomIn 2 (some .int), Cond.methodLink RX11 239 yX11_shiftOf, Cond.static yX11_shiftOf, Cond.code yX11_shiftOf cX11_shiftOf 1 (some .int), Cond.methodLink RX9 113 yX9_canWrite, Cond.instanceMethod yX9_canWrite, Cond.selects RX9 yX9_canWrite yX9_canWrite, Cond.code yX9_canWrite cX9_canWrite 3 (some .boolean), Cond.fieldLink RX9 12 "SpeltByFriends$Town" "ledger" "LSpeltByFriends$Ledger;", Cond.fieldLink RX9 64 "SpeltByFriends$Ledger" "firstHolder" "[I", Cond.fieldLink RX9 75 "SpeltByFriends$Ledger" "lastHolder" "[I", Cond.static yX11_at, Cond.code yX11_at cX11_at 2 (some .int), Cond.methodLink RX9 99 yX9_couldWrite, Cond.instanceMethod yX9_couldWrite, Cond.selects RX9 yX9_couldWrite yX9_couldWrite]
def wsX9_howManyWritten_r2 : List Cond := [Cond.code yX9_couldWrite cX9_couldWrite 11 (some .boolean), Cond.fieldLink RX9 103 "SpeltByFriends$Ledger" "foes" "[I", Cond.methodLink RX9 85 yX9_personAt, Cond.instanceMethod yX9_personAt, Cond.selects RX9 yX9_personAt yX9_personAt, Cond.code yX9_personAt cX9_personAt 2 (some (.object "SpeltByFriends$Person")), Cond.fieldLink RX9 39 "SpeltByFriends$Town" "people" "[LSpeltByFriends$Person;", Cond.methodLink RX9 82 yX9_has, Cond.instanceMethod yX9_has, Cond.selects RX9 yX9_has yX9_has, Cond.code yX9_has cX9_has 2 (some .boolean), Cond.methodLink RX9 106 ⟨"SpeltByFriends$Person", "isSpelt", "(ZZII)Z"⟩, Cond.sameMethod "SpeltByFriends$Person" "SpeltByFriends$Person" "isSpelt" "(ZZII)Z", Cond.instanceMethod ⟨"SpeltByFriends$Person", "isSpelt", "(ZZII)Z"⟩, Cond.selects RX0 ⟨"SpeltByFriends$Person", "isSpelt", "(ZZII)Z"⟩ yX0_isSpelt, Cond.instanceMethod yX0_isSpelt, Cond.initialized RX0, Cond.code yX0_isSpelt cX0_isSpelt 5 (some .boolean), Cond.code yX6_isSpelt cX6_isSpelt 5 (some .boolean), Cond.selects RX2 ⟨"SpeltByFriends$Person", "isSpelt", "(ZZII)Z"⟩ yX2_isSpelt, Cond.instanceMethod yX2_isSpelt, Cond.initialized RX2, Cond.code yX2_isSpelt cX2_isSpelt 5 (some .boolean), Cond.methodLink RX9 106 yX6_isSpelt]
def wsX9_howManyWritten_r3 : List Cond := [Cond.instanceMethod yX6_isSpelt, Cond.selects RX6 yX6_isSpelt yX6_isSpelt, Cond.initialized RX6, Cond.selects RX8 ⟨"SpeltByFriends$Person", "isSpelt", "(ZZII)Z"⟩ yX8_isSpelt, Cond.instanceMethod yX8_isSpelt, Cond.initialized RX8, Cond.code yX8_isSpelt cX8_isSpelt 5 (some .boolean), Cond.selects RX10 ⟨"SpeltByFriends$Person", "isSpelt", "(ZZII)Z"⟩ yX10_isSpelt, Cond.instanceMethod yX10_isSpelt, Cond.initialized RX10, Cond.code yX10_isSpelt cX10_isSpelt 5 (some .boolean)]
def wsX9_howManyWritten : List Cond := .code yX9_howManyWritten cX9_howManyWritten 4 (some .int) :: ((wsX9_howManyWritten_r1 ++ (wsX9_howManyWritten_r2 ++ wsX9_howManyWritten_r3)) ++ wsX90 ++ wsX30)
def wsX4_play_r1 : List Cond := [Cond.fieldLink RX4 9 "SpeltByFriends$Lottery" "seed" "I", Cond.fieldLink RX4 15 "SpeltByFriends$Lottery" "together" "I", Cond.fieldLink RX4 18 "SpeltByFriends$Town" "ledger" "LSpeltByFriends$Ledger;", Cond.fieldLink RX4 24 "SpeltByFriends$Ledger" "rooms" "I", Cond.fieldLink RX4 29 "SpeltByFriends$Town" "size" "I", Cond.fieldLink RX4 43 "SpeltByFriends$Lottery" "inTheEnd" "I", Cond.methodLink RX4 32 yX4_draw, Cond.instanceMethod yX4_draw, Cond.selects RX4 yX4_draw yX4_draw, Cond.initialized RX4, Cond.code yX4_draw cX4_draw 2 (some .int), Cond.constantLong RX4 46 (1103515245), Cond.constantLong RX4 48 (12345), Cond.constantLong RX4 50 (2147483647), Cond.static yX11_withRoom, Cond.initialized RX11, Cond.code yX11_withRoom cX11_withRoom 4 (some .int), Cond.methodLink RX11 239 yX11_shiftOf, Cond.static yX11_shiftOf, Cond.code yX11_shiftOf cX11_shiftOf 1 (some .int), Cond.methodLink RX4 40 yX9_howManyWritten, Cond.instanceMethod yX9_howManyWritten, Cond.selects RX9 yX9_howManyWritten yX9_howManyWritten, Cond.initialized RX9]
def wsX4_play_r2 : List Cond := [Cond.code yX9_howManyWritten cX9_howManyWritten 4 (some .int), Cond.fieldLink RX9 56 "SpeltByFriends$Town" "size" "I", Cond.methodLink RX9 110 yX9_companyIn, Cond.instanceMethod yX9_companyIn, Cond.selects RX9 yX9_companyIn yX9_companyIn, Cond.code yX9_companyIn cX9_companyIn 6 (some .int), Cond.static yX11_roomIn, Cond.code yX11_roomIn cX11_roomIn 2 (some .int), Cond.methodLink RX9 113 yX9_canWrite, Cond.instanceMethod yX9_canWrite, Cond.selects RX9 yX9_canWrite yX9_canWrite, Cond.code yX9_canWrite cX9_canWrite 3 (some .boolean), Cond.fieldLink RX9 12 "SpeltByFriends$Town" "ledger" "LSpeltByFriends$Ledger;", Cond.fieldLink RX9 64 "SpeltByFriends$Ledger" "firstHolder" "[I", Cond.fieldLink RX9 75 "SpeltByFriends$Ledger" "lastHolder" "[I", Cond.static yX11_at, Cond.code yX11_at cX11_at 2 (some .int), Cond.methodLink RX9 99 yX9_couldWrite, Cond.instanceMethod yX9_couldWrite, Cond.selects RX9 yX9_couldWrite yX9_couldWrite, Cond.code yX9_couldWrite cX9_couldWrite 11 (some .boolean), Cond.fieldLink RX9 103 "SpeltByFriends$Ledger" "foes" "[I", Cond.methodLink RX9 85 yX9_personAt, Cond.instanceMethod yX9_personAt]
def wsX4_play_r3 : List Cond := [Cond.selects RX9 yX9_personAt yX9_personAt, Cond.code yX9_personAt cX9_personAt 2 (some (.object "SpeltByFriends$Person")), Cond.fieldLink RX9 39 "SpeltByFriends$Town" "people" "[LSpeltByFriends$Person;", Cond.methodLink RX9 82 yX9_has, Cond.instanceMethod yX9_has, Cond.selects RX9 yX9_has yX9_has, Cond.code yX9_has cX9_has 2 (some .boolean), Cond.methodLink RX9 106 ⟨"SpeltByFriends$Person", "isSpelt", "(ZZII)Z"⟩, Cond.sameMethod "SpeltByFriends$Person" "SpeltByFriends$Person" "isSpelt" "(ZZII)Z", Cond.instanceMethod ⟨"SpeltByFriends$Person", "isSpelt", "(ZZII)Z"⟩, Cond.selects RX0 ⟨"SpeltByFriends$Person", "isSpelt", "(ZZII)Z"⟩ yX0_isSpelt, Cond.instanceMethod yX0_isSpelt, Cond.initialized RX0, Cond.code yX0_isSpelt cX0_isSpelt 5 (some .boolean), Cond.code yX6_isSpelt cX6_isSpelt 5 (some .boolean), Cond.selects RX2 ⟨"SpeltByFriends$Person", "isSpelt", "(ZZII)Z"⟩ yX2_isSpelt, Cond.instanceMethod yX2_isSpelt, Cond.initialized RX2, Cond.code yX2_isSpelt cX2_isSpelt 5 (some .boolean), Cond.methodLink RX9 106 yX6_isSpelt, Cond.instanceMethod yX6_isSpelt, Cond.selects RX6 yX6_isSpelt yX6_isSpelt, Cond.initialized RX6, Cond.selects RX8 ⟨"SpeltByFriends$Person", "isSpelt", "(ZZII)Z"⟩ yX8_isSpelt]
def wsX4_play_r4 : List Cond := [Cond.instanceMethod yX8_isSpelt, Cond.initialized RX8, Cond.code yX8_isSpelt cX8_isSpelt 5 (some .boolean), Cond.selects RX10 ⟨"SpeltByFriends$Person", "isSpelt", "(ZZII)Z"⟩ yX10_isSpelt, Cond.instanceMethod yX10_isSpelt, Cond.initialized RX10, Cond.code yX10_isSpelt cX10_isSpelt 5 (some .boolean)]
def wsX4_play : List Cond := .code yX4_play cX4_play 7 none :: ((wsX4_play_r1 ++ (wsX4_play_r2 ++ (wsX4_play_r3 ++ wsX4_play_r4))) ++ wsX40 ++ wsX90 ++ wsX30)
def wsX5_init : List Cond := .code yX5_init cX5_init 1 none :: ([.methodLink RX5 3 objectInit, .instanceMethod objectInit, .code objectInit ⟨#[0xb1]⟩ 1 none, .arrayClass .int, .fieldLink RX5 9 "SpeltByFriends$Page" "letters" "[I"] ++ wsX50)
def wsX5_add : List Cond := .code yX5_add cX5_add 2 (some .boolean) :: ([.fieldLink RX5 15 "SpeltByFriends$Page" "length" "I", .fieldLink RX5 9 "SpeltByFriends$Page" "letters" "[I", .static yX11_put, .initialized RX11, .code yX11_put cX11_put 3 none] ++ wsX50)
def wsX5_isWhole : List Cond := .code yX5_isWhole cX5_isWhole 1 (some .boolean) :: ([.fieldLink RX5 15 "SpeltByFriends$Page" "length" "I"] ++ wsX50)
def wsJ0_isLatin1_aae02 : List Cond := .code yJ0_isLatin1_aae02 cJ0_isLatin1_aae02 1 (some .boolean) :: ([.fieldLink RJ0 38 "java/lang/String" "COMPACT_STRINGS" "Z", .fieldLink RJ0 15 "java/lang/String" "coder" "B"])
def wsJ0_coder_7d493 : List Cond := .code yJ0_coder_7d493 cJ0_coder_7d493 1 (some .byte) :: ([.fieldLink RJ0 38 "java/lang/String" "COMPACT_STRINGS" "Z", .fieldLink RJ0 15 "java/lang/String" "coder" "B"])
def wsJ0_length_8abf5 : List Cond := .code yJ0_length_8abf5 cJ0_length_8abf5 1 (some .int) :: ([.fieldLink RJ0 9 "java/lang/String" "value" "[B", .methodLink RJ0 335 yJ0_coder_7d493, .instanceMethod yJ0_coder_7d493, .selects RJ0 yJ0_coder_7d493 yJ0_coder_7d493, .initialized RJ0, .code yJ0_coder_7d493 cJ0_coder_7d493 1 (some .byte), .fieldLink RJ0 38 "java/lang/String" "COMPACT_STRINGS" "Z", .fieldLink RJ0 15 "java/lang/String" "coder" "B"])
def wsJ1_canEncode_9a6ad : List Cond := .code yJ1_canEncode_9a6ad cJ1_canEncode_9a6ad 1 (some .boolean) :: ([])
def wsJ1_indexOfChar_4cfef : List Cond := .code yJ1_indexOfChar_4cfef cJ1_indexOfChar_4cfef 6 (some .int) :: ([])
def wsJ1_indexOf_4cfef : List Cond := .code yJ1_indexOf_4cfef cJ1_indexOf_4cfef 4 (some .int) :: ([.methodLink RJ1 92 Lib.Math.max.name, .static Lib.Math.max.name, .initialized "java/lang/Math", .code Lib.Math.max.name Lib.Math.max.code 2 (some .int), .methodLink RJ1 38 Lib.Math.min.name, .static Lib.Math.min.name, .code Lib.Math.min.name Lib.Math.min.code 2 (some .int), .methodLink RJ1 88 yJ1_canEncode_9a6ad, .static yJ1_canEncode_9a6ad, .initialized RJ1, .code yJ1_canEncode_9a6ad cJ1_canEncode_9a6ad 1 (some .boolean), .methodLink RJ1 95 yJ1_indexOfChar_4cfef, .static yJ1_indexOfChar_4cfef, .code yJ1_indexOfChar_4cfef cJ1_indexOfChar_4cfef 6 (some .int)])
def wsJ2_length_9d52b : List Cond := .code yJ2_length_9d52b cJ2_length_9d52b 1 (some .int) :: ([])
def wsJ3_checkFromToIndex_8c36e : List Cond := .code yJ3_checkFromToIndex_8c36e cJ3_checkFromToIndex_8c36e 4 (some .int) :: ([])
def wsJ0_checkBoundsBeginEnd_23922 : List Cond := .code yJ0_checkBoundsBeginEnd_23922 cJ0_checkBoundsBeginEnd_23922 3 none :: ([.fieldLink RJ0 1053 "jdk/internal/util/Preconditions" "SIOOBE_FORMATTER" "Ljava/util/function/BiFunction;", .methodLink RJ0 1062 yJ3_checkFromToIndex_8c36e, .static yJ3_checkFromToIndex_8c36e, .initialized RJ3, .code yJ3_checkFromToIndex_8c36e cJ3_checkFromToIndex_8c36e 4 (some .int)])
def wsJ2_checkBoundsBeginEnd_d044e : List Cond := .code yJ2_checkBoundsBeginEnd_d044e cJ2_checkBoundsBeginEnd_d044e 3 none :: ([.methodLink RJ2 48 yJ2_length_9d52b, .static yJ2_length_9d52b, .initialized RJ2, .code yJ2_length_9d52b cJ2_length_9d52b 1 (some .int), .methodLink RJ2 241 yJ0_checkBoundsBeginEnd_23922, .static yJ0_checkBoundsBeginEnd_23922, .initialized RJ0, .code yJ0_checkBoundsBeginEnd_23922 cJ0_checkBoundsBeginEnd_23922 3 none, .fieldLink RJ0 1053 "jdk/internal/util/Preconditions" "SIOOBE_FORMATTER" "Ljava/util/function/BiFunction;", .methodLink RJ0 1062 yJ3_checkFromToIndex_8c36e, .static yJ3_checkFromToIndex_8c36e, .initialized RJ3, .code yJ3_checkFromToIndex_8c36e cJ3_checkFromToIndex_8c36e 4 (some .int)])
def wsJ2_getChar_3b067 : List Cond := .code yJ2_getChar_3b067 cJ2_getChar_3b067 2 (some .char) :: ([.fieldLink RJ2 44 "java/lang/StringUTF16" "$assertionsDisabled" "Z", .fieldLink RJ2 59 "java/lang/StringUTF16" "HI_BYTE_SHIFT" "I", .fieldLink RJ2 63 "java/lang/StringUTF16" "LO_BYTE_SHIFT" "I", .methodLink RJ2 48 yJ2_length_9d52b, .static yJ2_length_9d52b, .initialized RJ2, .code yJ2_length_9d52b cJ2_length_9d52b 1 (some .int)])
def wsJ2_indexOfCharUnsafe_4cfef : List Cond := .code yJ2_indexOfCharUnsafe_4cfef cJ2_indexOfCharUnsafe_4cfef 5 (some .int) :: ([.methodLink RJ2 71 yJ2_getChar_3b067, .static yJ2_getChar_3b067, .initialized RJ2, .code yJ2_getChar_3b067 cJ2_getChar_3b067 2 (some .char), .fieldLink RJ2 44 "java/lang/StringUTF16" "$assertionsDisabled" "Z", .fieldLink RJ2 59 "java/lang/StringUTF16" "HI_BYTE_SHIFT" "I", .fieldLink RJ2 63 "java/lang/StringUTF16" "LO_BYTE_SHIFT" "I", .methodLink RJ2 48 yJ2_length_9d52b, .static yJ2_length_9d52b, .code yJ2_length_9d52b cJ2_length_9d52b 1 (some .int)])
def wsJ2_indexOfChar_4cfef_r1 : List Cond := [Cond.methodLink RJ2 96 yJ2_checkBoundsBeginEnd_d044e, Cond.static yJ2_checkBoundsBeginEnd_d044e, Cond.initialized RJ2, Cond.code yJ2_checkBoundsBeginEnd_d044e cJ2_checkBoundsBeginEnd_d044e 3 none, Cond.methodLink RJ2 48 yJ2_length_9d52b, Cond.static yJ2_length_9d52b, Cond.code yJ2_length_9d52b cJ2_length_9d52b 1 (some .int), Cond.methodLink RJ2 241 yJ0_checkBoundsBeginEnd_23922, Cond.static yJ0_checkBoundsBeginEnd_23922, Cond.initialized RJ0, Cond.code yJ0_checkBoundsBeginEnd_23922 cJ0_checkBoundsBeginEnd_23922 3 none, Cond.fieldLink RJ0 1053 "jdk/internal/util/Preconditions" "SIOOBE_FORMATTER" "Ljava/util/function/BiFunction;", Cond.methodLink RJ0 1062 yJ3_checkFromToIndex_8c36e, Cond.static yJ3_checkFromToIndex_8c36e, Cond.initialized RJ3, Cond.code yJ3_checkFromToIndex_8c36e cJ3_checkFromToIndex_8c36e 4 (some .int), Cond.methodLink RJ2 244 yJ2_indexOfCharUnsafe_4cfef, Cond.static yJ2_indexOfCharUnsafe_4cfef, Cond.code yJ2_indexOfCharUnsafe_4cfef cJ2_indexOfCharUnsafe_4cfef 5 (some .int), Cond.methodLink RJ2 71 yJ2_getChar_3b067, Cond.static yJ2_getChar_3b067, Cond.code yJ2_getChar_3b067 cJ2_getChar_3b067 2 (some .char), Cond.fieldLink RJ2 44 "java/lang/StringUTF16" "$assertionsDisabled" "Z", Cond.fieldLink RJ2 59 "java/lang/StringUTF16" "HI_BYTE_SHIFT" "I"]
def wsJ2_indexOfChar_4cfef_r2 : List Cond := [Cond.fieldLink RJ2 63 "java/lang/StringUTF16" "LO_BYTE_SHIFT" "I"]
def wsJ2_indexOfChar_4cfef : List Cond := .code yJ2_indexOfChar_4cfef cJ2_indexOfChar_4cfef 4 (some .int) :: ((wsJ2_indexOfChar_4cfef_r1 ++ wsJ2_indexOfChar_4cfef_r2))
def wsJ11_isValidCodePoint_9a6ad : List Cond := .code yJ11_isValidCodePoint_9a6ad cJ11_isValidCodePoint_9a6ad 2 (some .boolean) :: ([])
def wsJ11_highSurrogate_5068e : List Cond := .code yJ11_highSurrogate_5068e cJ11_highSurrogate_5068e 1 (some .char) :: ([.constant RJ11 110 (55232)])
def wsJ11_lowSurrogate_5068e : List Cond := .code yJ11_lowSurrogate_5068e cJ11_lowSurrogate_5068e 1 (some .char) :: ([.constant RJ11 76 (56320)])
def wsJ2_indexOfSupplementary_4cfef_r1 : List Cond := [Cond.methodLink RJ2 164 yJ11_isValidCodePoint_9a6ad, Cond.static yJ11_isValidCodePoint_9a6ad, Cond.initialized RJ11, Cond.code yJ11_isValidCodePoint_9a6ad cJ11_isValidCodePoint_9a6ad 2 (some .boolean), Cond.methodLink RJ2 157 yJ11_highSurrogate_5068e, Cond.static yJ11_highSurrogate_5068e, Cond.code yJ11_highSurrogate_5068e cJ11_highSurrogate_5068e 1 (some .char), Cond.constant RJ11 110 (55232), Cond.methodLink RJ2 161 yJ11_lowSurrogate_5068e, Cond.static yJ11_lowSurrogate_5068e, Cond.code yJ11_lowSurrogate_5068e cJ11_lowSurrogate_5068e 1 (some .char), Cond.constant RJ11 76 (56320), Cond.methodLink RJ2 96 yJ2_checkBoundsBeginEnd_d044e, Cond.static yJ2_checkBoundsBeginEnd_d044e, Cond.initialized RJ2, Cond.code yJ2_checkBoundsBeginEnd_d044e cJ2_checkBoundsBeginEnd_d044e 3 none, Cond.methodLink RJ2 48 yJ2_length_9d52b, Cond.static yJ2_length_9d52b, Cond.code yJ2_length_9d52b cJ2_length_9d52b 1 (some .int), Cond.methodLink RJ2 241 yJ0_checkBoundsBeginEnd_23922, Cond.static yJ0_checkBoundsBeginEnd_23922, Cond.initialized RJ0, Cond.code yJ0_checkBoundsBeginEnd_23922 cJ0_checkBoundsBeginEnd_23922 3 none, Cond.fieldLink RJ0 1053 "jdk/internal/util/Preconditions" "SIOOBE_FORMATTER" "Ljava/util/function/BiFunction;"]
def wsJ2_indexOfSupplementary_4cfef_r2 : List Cond := [Cond.methodLink RJ0 1062 yJ3_checkFromToIndex_8c36e, Cond.static yJ3_checkFromToIndex_8c36e, Cond.initialized RJ3, Cond.code yJ3_checkFromToIndex_8c36e cJ3_checkFromToIndex_8c36e 4 (some .int), Cond.methodLink RJ2 71 yJ2_getChar_3b067, Cond.static yJ2_getChar_3b067, Cond.code yJ2_getChar_3b067 cJ2_getChar_3b067 2 (some .char), Cond.fieldLink RJ2 44 "java/lang/StringUTF16" "$assertionsDisabled" "Z", Cond.fieldLink RJ2 59 "java/lang/StringUTF16" "HI_BYTE_SHIFT" "I", Cond.fieldLink RJ2 63 "java/lang/StringUTF16" "LO_BYTE_SHIFT" "I"]
def wsJ2_indexOfSupplementary_4cfef : List Cond := .code yJ2_indexOfSupplementary_4cfef cJ2_indexOfSupplementary_4cfef 7 (some .int) :: ((wsJ2_indexOfSupplementary_4cfef_r1 ++ wsJ2_indexOfSupplementary_4cfef_r2))
def wsJ2_indexOf_4cfef_r1 : List Cond := [Cond.methodLink RJ2 224 Lib.Math.max.name, Cond.static Lib.Math.max.name, Cond.initialized "java/lang/Math", Cond.code Lib.Math.max.name Lib.Math.max.code 2 (some .int), Cond.methodLink RJ2 183 Lib.Math.min.name, Cond.static Lib.Math.min.name, Cond.code Lib.Math.min.name Lib.Math.min.code 2 (some .int), Cond.constant RJ2 227 (65536), Cond.methodLink RJ2 228 yJ2_indexOfChar_4cfef, Cond.static yJ2_indexOfChar_4cfef, Cond.initialized RJ2, Cond.code yJ2_indexOfChar_4cfef cJ2_indexOfChar_4cfef 4 (some .int), Cond.methodLink RJ2 96 yJ2_checkBoundsBeginEnd_d044e, Cond.static yJ2_checkBoundsBeginEnd_d044e, Cond.code yJ2_checkBoundsBeginEnd_d044e cJ2_checkBoundsBeginEnd_d044e 3 none, Cond.methodLink RJ2 48 yJ2_length_9d52b, Cond.static yJ2_length_9d52b, Cond.code yJ2_length_9d52b cJ2_length_9d52b 1 (some .int), Cond.methodLink RJ2 241 yJ0_checkBoundsBeginEnd_23922, Cond.static yJ0_checkBoundsBeginEnd_23922, Cond.initialized RJ0, Cond.code yJ0_checkBoundsBeginEnd_23922 cJ0_checkBoundsBeginEnd_23922 3 none, Cond.fieldLink RJ0 1053 "jdk/internal/util/Preconditions" "SIOOBE_FORMATTER" "Ljava/util/function/BiFunction;", Cond.methodLink RJ0 1062 yJ3_checkFromToIndex_8c36e]
def wsJ2_indexOf_4cfef_r2 : List Cond := [Cond.static yJ3_checkFromToIndex_8c36e, Cond.initialized RJ3, Cond.code yJ3_checkFromToIndex_8c36e cJ3_checkFromToIndex_8c36e 4 (some .int), Cond.methodLink RJ2 244 yJ2_indexOfCharUnsafe_4cfef, Cond.static yJ2_indexOfCharUnsafe_4cfef, Cond.code yJ2_indexOfCharUnsafe_4cfef cJ2_indexOfCharUnsafe_4cfef 5 (some .int), Cond.methodLink RJ2 71 yJ2_getChar_3b067, Cond.static yJ2_getChar_3b067, Cond.code yJ2_getChar_3b067 cJ2_getChar_3b067 2 (some .char), Cond.fieldLink RJ2 44 "java/lang/StringUTF16" "$assertionsDisabled" "Z", Cond.fieldLink RJ2 59 "java/lang/StringUTF16" "HI_BYTE_SHIFT" "I", Cond.fieldLink RJ2 63 "java/lang/StringUTF16" "LO_BYTE_SHIFT" "I", Cond.methodLink RJ2 232 yJ2_indexOfSupplementary_4cfef, Cond.static yJ2_indexOfSupplementary_4cfef, Cond.code yJ2_indexOfSupplementary_4cfef cJ2_indexOfSupplementary_4cfef 7 (some .int), Cond.methodLink RJ2 164 yJ11_isValidCodePoint_9a6ad, Cond.static yJ11_isValidCodePoint_9a6ad, Cond.initialized RJ11, Cond.code yJ11_isValidCodePoint_9a6ad cJ11_isValidCodePoint_9a6ad 2 (some .boolean), Cond.methodLink RJ2 157 yJ11_highSurrogate_5068e, Cond.static yJ11_highSurrogate_5068e, Cond.code yJ11_highSurrogate_5068e cJ11_highSurrogate_5068e 1 (some .char), Cond.constant RJ11 110 (55232), Cond.methodLink RJ2 161 yJ11_lowSurrogate_5068e]
def wsJ2_indexOf_4cfef_r3 : List Cond := [Cond.static yJ11_lowSurrogate_5068e, Cond.code yJ11_lowSurrogate_5068e cJ11_lowSurrogate_5068e 1 (some .char), Cond.constant RJ11 76 (56320)]
def wsJ2_indexOf_4cfef : List Cond := .code yJ2_indexOf_4cfef cJ2_indexOf_4cfef 4 (some .int) :: ((wsJ2_indexOf_4cfef_r1 ++ (wsJ2_indexOf_4cfef_r2 ++ wsJ2_indexOf_4cfef_r3)))
def wsJ0_indexOf_7cf53_r1 : List Cond := [Cond.fieldLink RJ0 9 "java/lang/String" "value" "[B", Cond.methodLink RJ0 492 yJ0_isLatin1_aae02, Cond.instanceMethod yJ0_isLatin1_aae02, Cond.selects RJ0 yJ0_isLatin1_aae02 yJ0_isLatin1_aae02, Cond.initialized RJ0, Cond.code yJ0_isLatin1_aae02 cJ0_isLatin1_aae02 1 (some .boolean), Cond.fieldLink RJ0 38 "java/lang/String" "COMPACT_STRINGS" "Z", Cond.fieldLink RJ0 15 "java/lang/String" "coder" "B", Cond.methodLink RJ0 505 yJ0_length_8abf5, Cond.instanceMethod yJ0_length_8abf5, Cond.selects RJ0 yJ0_length_8abf5 yJ0_length_8abf5, Cond.code yJ0_length_8abf5 cJ0_length_8abf5 1 (some .int), Cond.methodLink RJ0 335 yJ0_coder_7d493, Cond.instanceMethod yJ0_coder_7d493, Cond.selects RJ0 yJ0_coder_7d493 yJ0_coder_7d493, Cond.code yJ0_coder_7d493 cJ0_coder_7d493 1 (some .byte), Cond.methodLink RJ0 637 yJ1_indexOf_4cfef, Cond.static yJ1_indexOf_4cfef, Cond.initialized RJ1, Cond.code yJ1_indexOf_4cfef cJ1_indexOf_4cfef 4 (some .int), Cond.methodLink RJ1 92 Lib.Math.max.name, Cond.static Lib.Math.max.name, Cond.initialized "java/lang/Math", Cond.code Lib.Math.max.name Lib.Math.max.code 2 (some .int)]
def wsJ0_indexOf_7cf53_r2 : List Cond := [Cond.methodLink RJ1 38 Lib.Math.min.name, Cond.static Lib.Math.min.name, Cond.code Lib.Math.min.name Lib.Math.min.code 2 (some .int), Cond.methodLink RJ1 88 yJ1_canEncode_9a6ad, Cond.static yJ1_canEncode_9a6ad, Cond.code yJ1_canEncode_9a6ad cJ1_canEncode_9a6ad 1 (some .boolean), Cond.methodLink RJ1 95 yJ1_indexOfChar_4cfef, Cond.static yJ1_indexOfChar_4cfef, Cond.code yJ1_indexOfChar_4cfef cJ1_indexOfChar_4cfef 6 (some .int), Cond.methodLink RJ0 640 yJ2_indexOf_4cfef, Cond.static yJ2_indexOf_4cfef, Cond.initialized RJ2, Cond.code yJ2_indexOf_4cfef cJ2_indexOf_4cfef 4 (some .int), Cond.methodLink RJ2 224 Lib.Math.max.name, Cond.methodLink RJ2 183 Lib.Math.min.name, Cond.constant RJ2 227 (65536), Cond.methodLink RJ2 228 yJ2_indexOfChar_4cfef, Cond.static yJ2_indexOfChar_4cfef, Cond.code yJ2_indexOfChar_4cfef cJ2_indexOfChar_4cfef 4 (some .int), Cond.methodLink RJ2 96 yJ2_checkBoundsBeginEnd_d044e, Cond.static yJ2_checkBoundsBeginEnd_d044e, Cond.code yJ2_checkBoundsBeginEnd_d044e cJ2_checkBoundsBeginEnd_d044e 3 none, Cond.methodLink RJ2 48 yJ2_length_9d52b, Cond.static yJ2_length_9d52b]
def wsJ0_indexOf_7cf53_r3 : List Cond := [Cond.code yJ2_length_9d52b cJ2_length_9d52b 1 (some .int), Cond.methodLink RJ2 241 yJ0_checkBoundsBeginEnd_23922, Cond.static yJ0_checkBoundsBeginEnd_23922, Cond.code yJ0_checkBoundsBeginEnd_23922 cJ0_checkBoundsBeginEnd_23922 3 none, Cond.fieldLink RJ0 1053 "jdk/internal/util/Preconditions" "SIOOBE_FORMATTER" "Ljava/util/function/BiFunction;", Cond.methodLink RJ0 1062 yJ3_checkFromToIndex_8c36e, Cond.static yJ3_checkFromToIndex_8c36e, Cond.initialized RJ3, Cond.code yJ3_checkFromToIndex_8c36e cJ3_checkFromToIndex_8c36e 4 (some .int), Cond.methodLink RJ2 244 yJ2_indexOfCharUnsafe_4cfef, Cond.static yJ2_indexOfCharUnsafe_4cfef, Cond.code yJ2_indexOfCharUnsafe_4cfef cJ2_indexOfCharUnsafe_4cfef 5 (some .int), Cond.methodLink RJ2 71 yJ2_getChar_3b067, Cond.static yJ2_getChar_3b067, Cond.code yJ2_getChar_3b067 cJ2_getChar_3b067 2 (some .char), Cond.fieldLink RJ2 44 "java/lang/StringUTF16" "$assertionsDisabled" "Z", Cond.fieldLink RJ2 59 "java/lang/StringUTF16" "HI_BYTE_SHIFT" "I", Cond.fieldLink RJ2 63 "java/lang/StringUTF16" "LO_BYTE_SHIFT" "I", Cond.methodLink RJ2 232 yJ2_indexOfSupplementary_4cfef, Cond.static yJ2_indexOfSupplementary_4cfef, Cond.code yJ2_indexOfSupplementary_4cfef cJ2_indexOfSupplementary_4cfef 7 (some .int), Cond.methodLink RJ2 164 yJ11_isValidCodePoint_9a6ad, Cond.static yJ11_isValidCodePoint_9a6ad, Cond.initialized RJ11]
def wsJ0_indexOf_7cf53_r4 : List Cond := [Cond.code yJ11_isValidCodePoint_9a6ad cJ11_isValidCodePoint_9a6ad 2 (some .boolean), Cond.methodLink RJ2 157 yJ11_highSurrogate_5068e, Cond.static yJ11_highSurrogate_5068e, Cond.code yJ11_highSurrogate_5068e cJ11_highSurrogate_5068e 1 (some .char), Cond.constant RJ11 110 (55232), Cond.methodLink RJ2 161 yJ11_lowSurrogate_5068e, Cond.static yJ11_lowSurrogate_5068e, Cond.code yJ11_lowSurrogate_5068e cJ11_lowSurrogate_5068e 1 (some .char), Cond.constant RJ11 76 (56320)]
def wsJ0_indexOf_7cf53 : List Cond := .code yJ0_indexOf_7cf53 cJ0_indexOf_7cf53 3 (some .int) :: ((wsJ0_indexOf_7cf53_r1 ++ (wsJ0_indexOf_7cf53_r2 ++ (wsJ0_indexOf_7cf53_r3 ++ wsJ0_indexOf_7cf53_r4))))
def wsJ0_indexOf_0f7a4_r1 : List Cond := [Cond.methodLink RJ0 633 yJ0_indexOf_7cf53, Cond.instanceMethod yJ0_indexOf_7cf53, Cond.selects RJ0 yJ0_indexOf_7cf53 yJ0_indexOf_7cf53, Cond.initialized RJ0, Cond.code yJ0_indexOf_7cf53 cJ0_indexOf_7cf53 3 (some .int), Cond.fieldLink RJ0 9 "java/lang/String" "value" "[B", Cond.methodLink RJ0 492 yJ0_isLatin1_aae02, Cond.instanceMethod yJ0_isLatin1_aae02, Cond.selects RJ0 yJ0_isLatin1_aae02 yJ0_isLatin1_aae02, Cond.code yJ0_isLatin1_aae02 cJ0_isLatin1_aae02 1 (some .boolean), Cond.fieldLink RJ0 38 "java/lang/String" "COMPACT_STRINGS" "Z", Cond.fieldLink RJ0 15 "java/lang/String" "coder" "B", Cond.methodLink RJ0 505 yJ0_length_8abf5, Cond.instanceMethod yJ0_length_8abf5, Cond.selects RJ0 yJ0_length_8abf5 yJ0_length_8abf5, Cond.code yJ0_length_8abf5 cJ0_length_8abf5 1 (some .int), Cond.methodLink RJ0 335 yJ0_coder_7d493, Cond.instanceMethod yJ0_coder_7d493, Cond.selects RJ0 yJ0_coder_7d493 yJ0_coder_7d493, Cond.code yJ0_coder_7d493 cJ0_coder_7d493 1 (some .byte), Cond.methodLink RJ0 637 yJ1_indexOf_4cfef, Cond.static yJ1_indexOf_4cfef, Cond.initialized RJ1, Cond.code yJ1_indexOf_4cfef cJ1_indexOf_4cfef 4 (some .int)]
def wsJ0_indexOf_0f7a4_r2 : List Cond := [Cond.methodLink RJ1 92 Lib.Math.max.name, Cond.static Lib.Math.max.name, Cond.initialized "java/lang/Math", Cond.code Lib.Math.max.name Lib.Math.max.code 2 (some .int), Cond.methodLink RJ1 38 Lib.Math.min.name, Cond.static Lib.Math.min.name, Cond.code Lib.Math.min.name Lib.Math.min.code 2 (some .int), Cond.methodLink RJ1 88 yJ1_canEncode_9a6ad, Cond.static yJ1_canEncode_9a6ad, Cond.code yJ1_canEncode_9a6ad cJ1_canEncode_9a6ad 1 (some .boolean), Cond.methodLink RJ1 95 yJ1_indexOfChar_4cfef, Cond.static yJ1_indexOfChar_4cfef, Cond.code yJ1_indexOfChar_4cfef cJ1_indexOfChar_4cfef 6 (some .int), Cond.methodLink RJ0 640 yJ2_indexOf_4cfef, Cond.static yJ2_indexOf_4cfef, Cond.initialized RJ2, Cond.code yJ2_indexOf_4cfef cJ2_indexOf_4cfef 4 (some .int), Cond.methodLink RJ2 224 Lib.Math.max.name, Cond.methodLink RJ2 183 Lib.Math.min.name, Cond.constant RJ2 227 (65536), Cond.methodLink RJ2 228 yJ2_indexOfChar_4cfef, Cond.static yJ2_indexOfChar_4cfef, Cond.code yJ2_indexOfChar_4cfef cJ2_indexOfChar_4cfef 4 (some .int), Cond.methodLink RJ2 96 yJ2_checkBoundsBeginEnd_d044e]
def wsJ0_indexOf_0f7a4_r3 : List Cond := [Cond.static yJ2_checkBoundsBeginEnd_d044e, Cond.code yJ2_checkBoundsBeginEnd_d044e cJ2_checkBoundsBeginEnd_d044e 3 none, Cond.methodLink RJ2 48 yJ2_length_9d52b, Cond.static yJ2_length_9d52b, Cond.code yJ2_length_9d52b cJ2_length_9d52b 1 (some .int), Cond.methodLink RJ2 241 yJ0_checkBoundsBeginEnd_23922, Cond.static yJ0_checkBoundsBeginEnd_23922, Cond.code yJ0_checkBoundsBeginEnd_23922 cJ0_checkBoundsBeginEnd_23922 3 none, Cond.fieldLink RJ0 1053 "jdk/internal/util/Preconditions" "SIOOBE_FORMATTER" "Ljava/util/function/BiFunction;", Cond.methodLink RJ0 1062 yJ3_checkFromToIndex_8c36e, Cond.static yJ3_checkFromToIndex_8c36e, Cond.initialized RJ3, Cond.code yJ3_checkFromToIndex_8c36e cJ3_checkFromToIndex_8c36e 4 (some .int), Cond.methodLink RJ2 244 yJ2_indexOfCharUnsafe_4cfef, Cond.static yJ2_indexOfCharUnsafe_4cfef, Cond.code yJ2_indexOfCharUnsafe_4cfef cJ2_indexOfCharUnsafe_4cfef 5 (some .int), Cond.methodLink RJ2 71 yJ2_getChar_3b067, Cond.static yJ2_getChar_3b067, Cond.code yJ2_getChar_3b067 cJ2_getChar_3b067 2 (some .char), Cond.fieldLink RJ2 44 "java/lang/StringUTF16" "$assertionsDisabled" "Z", Cond.fieldLink RJ2 59 "java/lang/StringUTF16" "HI_BYTE_SHIFT" "I", Cond.fieldLink RJ2 63 "java/lang/StringUTF16" "LO_BYTE_SHIFT" "I", Cond.methodLink RJ2 232 yJ2_indexOfSupplementary_4cfef, Cond.static yJ2_indexOfSupplementary_4cfef]
def wsJ0_indexOf_0f7a4_r4 : List Cond := [Cond.code yJ2_indexOfSupplementary_4cfef cJ2_indexOfSupplementary_4cfef 7 (some .int), Cond.methodLink RJ2 164 yJ11_isValidCodePoint_9a6ad, Cond.static yJ11_isValidCodePoint_9a6ad, Cond.initialized RJ11, Cond.code yJ11_isValidCodePoint_9a6ad cJ11_isValidCodePoint_9a6ad 2 (some .boolean), Cond.methodLink RJ2 157 yJ11_highSurrogate_5068e, Cond.static yJ11_highSurrogate_5068e, Cond.code yJ11_highSurrogate_5068e cJ11_highSurrogate_5068e 1 (some .char), Cond.constant RJ11 110 (55232), Cond.methodLink RJ2 161 yJ11_lowSurrogate_5068e, Cond.static yJ11_lowSurrogate_5068e, Cond.code yJ11_lowSurrogate_5068e cJ11_lowSurrogate_5068e 1 (some .char), Cond.constant RJ11 76 (56320)]
def wsJ0_indexOf_0f7a4 : List Cond := .code yJ0_indexOf_0f7a4 cJ0_indexOf_0f7a4 2 (some .int) :: ((wsJ0_indexOf_0f7a4_r1 ++ (wsJ0_indexOf_0f7a4_r2 ++ (wsJ0_indexOf_0f7a4_r3 ++ wsJ0_indexOf_0f7a4_r4))))
def wsX5_kindAt_r1 : List Cond := [Cond.fieldLink RX5 9 "SpeltByFriends$Page" "letters" "[I", Cond.static yX11_at, Cond.initialized RX11, Cond.code yX11_at cX11_at 2 (some .int), Cond.methodLink RX5 37 yJ0_indexOf_0f7a4, Cond.instanceMethod yJ0_indexOf_0f7a4, Cond.selects RJ0 yJ0_indexOf_0f7a4 yJ0_indexOf_0f7a4, Cond.initialized RJ0, Cond.code yJ0_indexOf_0f7a4 cJ0_indexOf_0f7a4 2 (some .int), Cond.methodLink RJ0 633 yJ0_indexOf_7cf53, Cond.instanceMethod yJ0_indexOf_7cf53, Cond.selects RJ0 yJ0_indexOf_7cf53 yJ0_indexOf_7cf53, Cond.code yJ0_indexOf_7cf53 cJ0_indexOf_7cf53 3 (some .int), Cond.fieldLink RJ0 9 "java/lang/String" "value" "[B", Cond.methodLink RJ0 492 yJ0_isLatin1_aae02, Cond.instanceMethod yJ0_isLatin1_aae02, Cond.selects RJ0 yJ0_isLatin1_aae02 yJ0_isLatin1_aae02, Cond.code yJ0_isLatin1_aae02 cJ0_isLatin1_aae02 1 (some .boolean), Cond.fieldLink RJ0 38 "java/lang/String" "COMPACT_STRINGS" "Z", Cond.fieldLink RJ0 15 "java/lang/String" "coder" "B", Cond.methodLink RJ0 505 yJ0_length_8abf5, Cond.instanceMethod yJ0_length_8abf5, Cond.selects RJ0 yJ0_length_8abf5 yJ0_length_8abf5, Cond.code yJ0_length_8abf5 cJ0_length_8abf5 1 (some .int)]
def wsX5_kindAt_r2 : List Cond := [Cond.methodLink RJ0 335 yJ0_coder_7d493, Cond.instanceMethod yJ0_coder_7d493, Cond.selects RJ0 yJ0_coder_7d493 yJ0_coder_7d493, Cond.code yJ0_coder_7d493 cJ0_coder_7d493 1 (some .byte), Cond.methodLink RJ0 637 yJ1_indexOf_4cfef, Cond.static yJ1_indexOf_4cfef, Cond.initialized RJ1, Cond.code yJ1_indexOf_4cfef cJ1_indexOf_4cfef 4 (some .int), Cond.methodLink RJ1 92 Lib.Math.max.name, Cond.static Lib.Math.max.name, Cond.initialized "java/lang/Math", Cond.code Lib.Math.max.name Lib.Math.max.code 2 (some .int), Cond.methodLink RJ1 38 Lib.Math.min.name, Cond.static Lib.Math.min.name, Cond.code Lib.Math.min.name Lib.Math.min.code 2 (some .int), Cond.methodLink RJ1 88 yJ1_canEncode_9a6ad, Cond.static yJ1_canEncode_9a6ad, Cond.code yJ1_canEncode_9a6ad cJ1_canEncode_9a6ad 1 (some .boolean), Cond.methodLink RJ1 95 yJ1_indexOfChar_4cfef, Cond.static yJ1_indexOfChar_4cfef, Cond.code yJ1_indexOfChar_4cfef cJ1_indexOfChar_4cfef 6 (some .int), Cond.methodLink RJ0 640 yJ2_indexOf_4cfef, Cond.static yJ2_indexOf_4cfef, Cond.initialized RJ2]
def wsX5_kindAt_r3 : List Cond := [Cond.code yJ2_indexOf_4cfef cJ2_indexOf_4cfef 4 (some .int), Cond.methodLink RJ2 224 Lib.Math.max.name, Cond.methodLink RJ2 183 Lib.Math.min.name, Cond.constant RJ2 227 (65536), Cond.methodLink RJ2 228 yJ2_indexOfChar_4cfef, Cond.static yJ2_indexOfChar_4cfef, Cond.code yJ2_indexOfChar_4cfef cJ2_indexOfChar_4cfef 4 (some .int), Cond.methodLink RJ2 96 yJ2_checkBoundsBeginEnd_d044e, Cond.static yJ2_checkBoundsBeginEnd_d044e, Cond.code yJ2_checkBoundsBeginEnd_d044e cJ2_checkBoundsBeginEnd_d044e 3 none, Cond.methodLink RJ2 48 yJ2_length_9d52b, Cond.static yJ2_length_9d52b, Cond.code yJ2_length_9d52b cJ2_length_9d52b 1 (some .int), Cond.methodLink RJ2 241 yJ0_checkBoundsBeginEnd_23922, Cond.static yJ0_checkBoundsBeginEnd_23922, Cond.code yJ0_checkBoundsBeginEnd_23922 cJ0_checkBoundsBeginEnd_23922 3 none, Cond.fieldLink RJ0 1053 "jdk/internal/util/Preconditions" "SIOOBE_FORMATTER" "Ljava/util/function/BiFunction;", Cond.methodLink RJ0 1062 yJ3_checkFromToIndex_8c36e, Cond.static yJ3_checkFromToIndex_8c36e, Cond.initialized RJ3, Cond.code yJ3_checkFromToIndex_8c36e cJ3_checkFromToIndex_8c36e 4 (some .int), Cond.methodLink RJ2 244 yJ2_indexOfCharUnsafe_4cfef, Cond.static yJ2_indexOfCharUnsafe_4cfef, Cond.code yJ2_indexOfCharUnsafe_4cfef cJ2_indexOfCharUnsafe_4cfef 5 (some .int)]
def wsX5_kindAt_r4 : List Cond := [Cond.methodLink RJ2 71 yJ2_getChar_3b067, Cond.static yJ2_getChar_3b067, Cond.code yJ2_getChar_3b067 cJ2_getChar_3b067 2 (some .char), Cond.fieldLink RJ2 44 "java/lang/StringUTF16" "$assertionsDisabled" "Z", Cond.fieldLink RJ2 59 "java/lang/StringUTF16" "HI_BYTE_SHIFT" "I", Cond.fieldLink RJ2 63 "java/lang/StringUTF16" "LO_BYTE_SHIFT" "I", Cond.methodLink RJ2 232 yJ2_indexOfSupplementary_4cfef, Cond.static yJ2_indexOfSupplementary_4cfef, Cond.code yJ2_indexOfSupplementary_4cfef cJ2_indexOfSupplementary_4cfef 7 (some .int), Cond.methodLink RJ2 164 yJ11_isValidCodePoint_9a6ad, Cond.static yJ11_isValidCodePoint_9a6ad, Cond.initialized RJ11, Cond.code yJ11_isValidCodePoint_9a6ad cJ11_isValidCodePoint_9a6ad 2 (some .boolean), Cond.methodLink RJ2 157 yJ11_highSurrogate_5068e, Cond.static yJ11_highSurrogate_5068e, Cond.code yJ11_highSurrogate_5068e cJ11_highSurrogate_5068e 1 (some .char), Cond.constant RJ11 110 (55232), Cond.methodLink RJ2 161 yJ11_lowSurrogate_5068e, Cond.static yJ11_lowSurrogate_5068e, Cond.code yJ11_lowSurrogate_5068e cJ11_lowSurrogate_5068e 1 (some .char), Cond.constant RJ11 76 (56320)]
def wsX5_kindAt : List Cond := .code yX5_kindAt cX5_kindAt 2 (some .int) :: ((wsX5_kindAt_r1 ++ (wsX5_kindAt_r2 ++ (wsX5_kindAt_r3 ++ wsX5_kindAt_r4))) ++ wsX50)
def wsX5_digitAt : List Cond := .code yX5_digitAt cX5_digitAt 2 (some .int) :: ([.fieldLink RX5 9 "SpeltByFriends$Page" "letters" "[I", .static yX11_at, .initialized RX11, .code yX11_at cX11_at 2 (some .int)] ++ wsX50)
def wsX5_fits_r1 : List Cond := [Cond.fieldLink RX5 9 "SpeltByFriends$Page" "letters" "[I", Cond.methodLink RX5 50 yX5_kindAt, Cond.instanceMethod yX5_kindAt, Cond.selects RX5 yX5_kindAt yX5_kindAt, Cond.initialized RX5, Cond.code yX5_kindAt cX5_kindAt 2 (some .int), Cond.static yX11_at, Cond.initialized RX11, Cond.code yX11_at cX11_at 2 (some .int), Cond.methodLink RX5 37 yJ0_indexOf_0f7a4, Cond.instanceMethod yJ0_indexOf_0f7a4, Cond.selects RJ0 yJ0_indexOf_0f7a4 yJ0_indexOf_0f7a4, Cond.initialized RJ0, Cond.code yJ0_indexOf_0f7a4 cJ0_indexOf_0f7a4 2 (some .int), Cond.methodLink RJ0 633 yJ0_indexOf_7cf53, Cond.instanceMethod yJ0_indexOf_7cf53, Cond.selects RJ0 yJ0_indexOf_7cf53 yJ0_indexOf_7cf53, Cond.code yJ0_indexOf_7cf53 cJ0_indexOf_7cf53 3 (some .int), Cond.fieldLink RJ0 9 "java/lang/String" "value" "[B", Cond.methodLink RJ0 492 yJ0_isLatin1_aae02, Cond.instanceMethod yJ0_isLatin1_aae02, Cond.selects RJ0 yJ0_isLatin1_aae02 yJ0_isLatin1_aae02, Cond.code yJ0_isLatin1_aae02 cJ0_isLatin1_aae02 1 (some .boolean), Cond.fieldLink RJ0 38 "java/lang/String" "COMPACT_STRINGS" "Z"]
def wsX5_fits_r2 : List Cond := [Cond.fieldLink RJ0 15 "java/lang/String" "coder" "B", Cond.methodLink RJ0 505 yJ0_length_8abf5, Cond.instanceMethod yJ0_length_8abf5, Cond.selects RJ0 yJ0_length_8abf5 yJ0_length_8abf5, Cond.code yJ0_length_8abf5 cJ0_length_8abf5 1 (some .int), Cond.methodLink RJ0 335 yJ0_coder_7d493, Cond.instanceMethod yJ0_coder_7d493, Cond.selects RJ0 yJ0_coder_7d493 yJ0_coder_7d493, Cond.code yJ0_coder_7d493 cJ0_coder_7d493 1 (some .byte), Cond.methodLink RJ0 637 yJ1_indexOf_4cfef, Cond.static yJ1_indexOf_4cfef, Cond.initialized RJ1, Cond.code yJ1_indexOf_4cfef cJ1_indexOf_4cfef 4 (some .int), Cond.methodLink RJ1 92 Lib.Math.max.name, Cond.static Lib.Math.max.name, Cond.initialized "java/lang/Math", Cond.code Lib.Math.max.name Lib.Math.max.code 2 (some .int), Cond.methodLink RJ1 38 Lib.Math.min.name, Cond.static Lib.Math.min.name, Cond.code Lib.Math.min.name Lib.Math.min.code 2 (some .int), Cond.methodLink RJ1 88 yJ1_canEncode_9a6ad, Cond.static yJ1_canEncode_9a6ad, Cond.code yJ1_canEncode_9a6ad cJ1_canEncode_9a6ad 1 (some .boolean), Cond.methodLink RJ1 95 yJ1_indexOfChar_4cfef]
def wsX5_fits_r3 : List Cond := [Cond.static yJ1_indexOfChar_4cfef, Cond.code yJ1_indexOfChar_4cfef cJ1_indexOfChar_4cfef 6 (some .int), Cond.methodLink RJ0 640 yJ2_indexOf_4cfef, Cond.static yJ2_indexOf_4cfef, Cond.initialized RJ2, Cond.code yJ2_indexOf_4cfef cJ2_indexOf_4cfef 4 (some .int), Cond.methodLink RJ2 224 Lib.Math.max.name, Cond.methodLink RJ2 183 Lib.Math.min.name, Cond.constant RJ2 227 (65536), Cond.methodLink RJ2 228 yJ2_indexOfChar_4cfef, Cond.static yJ2_indexOfChar_4cfef, Cond.code yJ2_indexOfChar_4cfef cJ2_indexOfChar_4cfef 4 (some .int), Cond.methodLink RJ2 96 yJ2_checkBoundsBeginEnd_d044e, Cond.static yJ2_checkBoundsBeginEnd_d044e, Cond.code yJ2_checkBoundsBeginEnd_d044e cJ2_checkBoundsBeginEnd_d044e 3 none, Cond.methodLink RJ2 48 yJ2_length_9d52b, Cond.static yJ2_length_9d52b, Cond.code yJ2_length_9d52b cJ2_length_9d52b 1 (some .int), Cond.methodLink RJ2 241 yJ0_checkBoundsBeginEnd_23922, Cond.static yJ0_checkBoundsBeginEnd_23922, Cond.code yJ0_checkBoundsBeginEnd_23922 cJ0_checkBoundsBeginEnd_23922 3 none, Cond.fieldLink RJ0 1053 "jdk/internal/util/Preconditions" "SIOOBE_FORMATTER" "Ljava/util/function/BiFunction;", Cond.methodLink RJ0 1062 yJ3_checkFromToIndex_8c36e, Cond.static yJ3_checkFromToIndex_8c36e]
def wsX5_fits_r4 : List Cond := [Cond.initialized RJ3, Cond.code yJ3_checkFromToIndex_8c36e cJ3_checkFromToIndex_8c36e 4 (some .int), Cond.methodLink RJ2 244 yJ2_indexOfCharUnsafe_4cfef, Cond.static yJ2_indexOfCharUnsafe_4cfef, Cond.code yJ2_indexOfCharUnsafe_4cfef cJ2_indexOfCharUnsafe_4cfef 5 (some .int), Cond.methodLink RJ2 71 yJ2_getChar_3b067, Cond.static yJ2_getChar_3b067, Cond.code yJ2_getChar_3b067 cJ2_getChar_3b067 2 (some .char), Cond.fieldLink RJ2 44 "java/lang/StringUTF16" "$assertionsDisabled" "Z", Cond.fieldLink RJ2 59 "java/lang/StringUTF16" "HI_BYTE_SHIFT" "I", Cond.fieldLink RJ2 63 "java/lang/StringUTF16" "LO_BYTE_SHIFT" "I", Cond.methodLink RJ2 232 yJ2_indexOfSupplementary_4cfef, Cond.static yJ2_indexOfSupplementary_4cfef, Cond.code yJ2_indexOfSupplementary_4cfef cJ2_indexOfSupplementary_4cfef 7 (some .int), Cond.methodLink RJ2 164 yJ11_isValidCodePoint_9a6ad, Cond.static yJ11_isValidCodePoint_9a6ad, Cond.initialized RJ11, Cond.code yJ11_isValidCodePoint_9a6ad cJ11_isValidCodePoint_9a6ad 2 (some .boolean), Cond.methodLink RJ2 157 yJ11_highSurrogate_5068e, Cond.static yJ11_highSurrogate_5068e, Cond.code yJ11_highSurrogate_5068e cJ11_highSurrogate_5068e 1 (some .char), Cond.constant RJ11 110 (55232), Cond.methodLink RJ2 161 yJ11_lowSurrogate_5068e, Cond.static yJ11_lowSurrogate_5068e]
def wsX5_fits_r5 : List Cond := [Cond.code yJ11_lowSurrogate_5068e cJ11_lowSurrogate_5068e 1 (some .char), Cond.constant RJ11 76 (56320), Cond.methodLink RX5 53 yX5_digitAt, Cond.instanceMethod yX5_digitAt, Cond.selects RX5 yX5_digitAt yX5_digitAt, Cond.code yX5_digitAt cX5_digitAt 2 (some .int)]
def wsX5_fits : List Cond := .code yX5_fits cX5_fits 2 (some .boolean) :: ((wsX5_fits_r1 ++ (wsX5_fits_r2 ++ (wsX5_fits_r3 ++ (wsX5_fits_r4 ++ wsX5_fits_r5)))) ++ wsX50)
def wsX5_people : List Cond := .code yX5_people cX5_people 1 (some .int) :: ([.fieldLink RX5 15 "SpeltByFriends$Page" "length" "I"] ++ wsX50)
def wsX5_firstNobody : List Cond := .code yX5_firstNobody cX5_firstNobody 4 (some .int) :: ([.fieldLink RX5 15 "SpeltByFriends$Page" "length" "I", .methodLink RX5 56 yX5_people, .instanceMethod yX5_people, .selects RX5 yX5_people yX5_people, .initialized RX5, .code yX5_people cX5_people 1 (some .int), .methodLink RX5 53 yX5_digitAt, .instanceMethod yX5_digitAt, .selects RX5 yX5_digitAt yX5_digitAt, .code yX5_digitAt cX5_digitAt 2 (some .int), .fieldLink RX5 9 "SpeltByFriends$Page" "letters" "[I", .static yX11_at, .initialized RX11, .code yX11_at cX11_at 2 (some .int)] ++ wsX50)
def wsX5_firstFault_r1 : List Cond := [Cond.fieldLink RX5 15 "SpeltByFriends$Page" "length" "I", Cond.methodLink RX5 43 yX5_fits, Cond.instanceMethod yX5_fits, Cond.selects RX5 yX5_fits yX5_fits, Cond.initialized RX5, Cond.code yX5_fits cX5_fits 2 (some .boolean), Cond.fieldLink RX5 9 "SpeltByFriends$Page" "letters" "[I", Cond.methodLink RX5 50 yX5_kindAt, Cond.instanceMethod yX5_kindAt, Cond.selects RX5 yX5_kindAt yX5_kindAt, Cond.code yX5_kindAt cX5_kindAt 2 (some .int), Cond.static yX11_at, Cond.initialized RX11, Cond.code yX11_at cX11_at 2 (some .int), Cond.methodLink RX5 37 yJ0_indexOf_0f7a4, Cond.instanceMethod yJ0_indexOf_0f7a4, Cond.selects RJ0 yJ0_indexOf_0f7a4 yJ0_indexOf_0f7a4, Cond.initialized RJ0, Cond.code yJ0_indexOf_0f7a4 cJ0_indexOf_0f7a4 2 (some .int), Cond.methodLink RJ0 633 yJ0_indexOf_7cf53, Cond.instanceMethod yJ0_indexOf_7cf53, Cond.selects RJ0 yJ0_indexOf_7cf53 yJ0_indexOf_7cf53, Cond.code yJ0_indexOf_7cf53 cJ0_indexOf_7cf53 3 (some .int), Cond.fieldLink RJ0 9 "java/lang/String" "value" "[B"]
def wsX5_firstFault_r2 : List Cond := [Cond.methodLink RJ0 492 yJ0_isLatin1_aae02, Cond.instanceMethod yJ0_isLatin1_aae02, Cond.selects RJ0 yJ0_isLatin1_aae02 yJ0_isLatin1_aae02, Cond.code yJ0_isLatin1_aae02 cJ0_isLatin1_aae02 1 (some .boolean), Cond.fieldLink RJ0 38 "java/lang/String" "COMPACT_STRINGS" "Z", Cond.fieldLink RJ0 15 "java/lang/String" "coder" "B", Cond.methodLink RJ0 505 yJ0_length_8abf5, Cond.instanceMethod yJ0_length_8abf5, Cond.selects RJ0 yJ0_length_8abf5 yJ0_length_8abf5, Cond.code yJ0_length_8abf5 cJ0_length_8abf5 1 (some .int), Cond.methodLink RJ0 335 yJ0_coder_7d493, Cond.instanceMethod yJ0_coder_7d493, Cond.selects RJ0 yJ0_coder_7d493 yJ0_coder_7d493, Cond.code yJ0_coder_7d493 cJ0_coder_7d493 1 (some .byte), Cond.methodLink RJ0 637 yJ1_indexOf_4cfef, Cond.static yJ1_indexOf_4cfef, Cond.initialized RJ1, Cond.code yJ1_indexOf_4cfef cJ1_indexOf_4cfef 4 (some .int), Cond.methodLink RJ1 92 Lib.Math.max.name, Cond.static Lib.Math.max.name, Cond.initialized "java/lang/Math", Cond.code Lib.Math.max.name Lib.Math.max.code 2 (some .int), Cond.methodLink RJ1 38 Lib.Math.min.name, Cond.static Lib.Math.min.name]
def wsX5_firstFault_r3 : List Cond := [Cond.code Lib.Math.min.name Lib.Math.min.code 2 (some .int), Cond.methodLink RJ1 88 yJ1_canEncode_9a6ad, Cond.static yJ1_canEncode_9a6ad, Cond.code yJ1_canEncode_9a6ad cJ1_canEncode_9a6ad 1 (some .boolean), Cond.methodLink RJ1 95 yJ1_indexOfChar_4cfef, Cond.static yJ1_indexOfChar_4cfef, Cond.code yJ1_indexOfChar_4cfef cJ1_indexOfChar_4cfef 6 (some .int), Cond.methodLink RJ0 640 yJ2_indexOf_4cfef, Cond.static yJ2_indexOf_4cfef, Cond.initialized RJ2, Cond.code yJ2_indexOf_4cfef cJ2_indexOf_4cfef 4 (some .int), Cond.methodLink RJ2 224 Lib.Math.max.name, Cond.methodLink RJ2 183 Lib.Math.min.name, Cond.constant RJ2 227 (65536), Cond.methodLink RJ2 228 yJ2_indexOfChar_4cfef, Cond.static yJ2_indexOfChar_4cfef, Cond.code yJ2_indexOfChar_4cfef cJ2_indexOfChar_4cfef 4 (some .int), Cond.methodLink RJ2 96 yJ2_checkBoundsBeginEnd_d044e, Cond.static yJ2_checkBoundsBeginEnd_d044e, Cond.code yJ2_checkBoundsBeginEnd_d044e cJ2_checkBoundsBeginEnd_d044e 3 none, Cond.methodLink RJ2 48 yJ2_length_9d52b, Cond.static yJ2_length_9d52b, Cond.code yJ2_length_9d52b cJ2_length_9d52b 1 (some .int), Cond.methodLink RJ2 241 yJ0_checkBoundsBeginEnd_23922]
def wsX5_firstFault_r4 : List Cond := [Cond.static yJ0_checkBoundsBeginEnd_23922, Cond.code yJ0_checkBoundsBeginEnd_23922 cJ0_checkBoundsBeginEnd_23922 3 none, Cond.fieldLink RJ0 1053 "jdk/internal/util/Preconditions" "SIOOBE_FORMATTER" "Ljava/util/function/BiFunction;", Cond.methodLink RJ0 1062 yJ3_checkFromToIndex_8c36e, Cond.static yJ3_checkFromToIndex_8c36e, Cond.initialized RJ3, Cond.code yJ3_checkFromToIndex_8c36e cJ3_checkFromToIndex_8c36e 4 (some .int), Cond.methodLink RJ2 244 yJ2_indexOfCharUnsafe_4cfef, Cond.static yJ2_indexOfCharUnsafe_4cfef, Cond.code yJ2_indexOfCharUnsafe_4cfef cJ2_indexOfCharUnsafe_4cfef 5 (some .int), Cond.methodLink RJ2 71 yJ2_getChar_3b067, Cond.static yJ2_getChar_3b067, Cond.code yJ2_getChar_3b067 cJ2_getChar_3b067 2 (some .char), Cond.fieldLink RJ2 44 "java/lang/StringUTF16" "$assertionsDisabled" "Z", Cond.fieldLink RJ2 59 "java/lang/StringUTF16" "HI_BYTE_SHIFT" "I", Cond.fieldLink RJ2 63 "java/lang/StringUTF16" "LO_BYTE_SHIFT" "I", Cond.methodLink RJ2 232 yJ2_indexOfSupplementary_4cfef, Cond.static yJ2_indexOfSupplementary_4cfef, Cond.code yJ2_indexOfSupplementary_4cfef cJ2_indexOfSupplementary_4cfef 7 (some .int), Cond.methodLink RJ2 164 yJ11_isValidCodePoint_9a6ad, Cond.static yJ11_isValidCodePoint_9a6ad, Cond.initialized RJ11, Cond.code yJ11_isValidCodePoint_9a6ad cJ11_isValidCodePoint_9a6ad 2 (some .boolean), Cond.methodLink RJ2 157 yJ11_highSurrogate_5068e]
def wsX5_firstFault_r5 : List Cond := [Cond.static yJ11_highSurrogate_5068e, Cond.code yJ11_highSurrogate_5068e cJ11_highSurrogate_5068e 1 (some .char), Cond.constant RJ11 110 (55232), Cond.methodLink RJ2 161 yJ11_lowSurrogate_5068e, Cond.static yJ11_lowSurrogate_5068e, Cond.code yJ11_lowSurrogate_5068e cJ11_lowSurrogate_5068e 1 (some .char), Cond.constant RJ11 76 (56320), Cond.methodLink RX5 53 yX5_digitAt, Cond.instanceMethod yX5_digitAt, Cond.selects RX5 yX5_digitAt yX5_digitAt, Cond.code yX5_digitAt cX5_digitAt 2 (some .int), Cond.methodLink RX5 23 yX5_isWhole, Cond.instanceMethod yX5_isWhole, Cond.selects RX5 yX5_isWhole yX5_isWhole, Cond.code yX5_isWhole cX5_isWhole 1 (some .boolean), Cond.methodLink RX5 47 yX5_firstNobody, Cond.instanceMethod yX5_firstNobody, Cond.selects RX5 yX5_firstNobody yX5_firstNobody, Cond.code yX5_firstNobody cX5_firstNobody 4 (some .int), Cond.methodLink RX5 56 yX5_people, Cond.instanceMethod yX5_people, Cond.selects RX5 yX5_people yX5_people, Cond.code yX5_people cX5_people 1 (some .int)]
def wsX5_firstFault : List Cond := .code yX5_firstFault cX5_firstFault 2 (some .int) :: ((wsX5_firstFault_r1 ++ (wsX5_firstFault_r2 ++ (wsX5_firstFault_r3 ++ (wsX5_firstFault_r4 ++ wsX5_firstFault_r5)))) ++ wsX50)
def wsX5_isTown_r1 : List Cond := [Cond.fieldLink RX5 15 "SpeltByFriends$Page" "length" "I", Cond.methodLink RX5 23 yX5_isWhole, Cond.instanceMethod yX5_isWhole, Cond.selects RX5 yX5_isWhole yX5_isWhole, Cond.initialized RX5, Cond.code yX5_isWhole cX5_isWhole 1 (some .boolean), Cond.methodLink RX5 27 yX5_firstFault, Cond.instanceMethod yX5_firstFault, Cond.selects RX5 yX5_firstFault yX5_firstFault, Cond.code yX5_firstFault cX5_firstFault 2 (some .int), Cond.methodLink RX5 43 yX5_fits, Cond.instanceMethod yX5_fits, Cond.selects RX5 yX5_fits yX5_fits, Cond.code yX5_fits cX5_fits 2 (some .boolean), Cond.fieldLink RX5 9 "SpeltByFriends$Page" "letters" "[I", Cond.methodLink RX5 50 yX5_kindAt, Cond.instanceMethod yX5_kindAt, Cond.selects RX5 yX5_kindAt yX5_kindAt, Cond.code yX5_kindAt cX5_kindAt 2 (some .int), Cond.static yX11_at, Cond.initialized RX11, Cond.code yX11_at cX11_at 2 (some .int), Cond.methodLink RX5 37 yJ0_indexOf_0f7a4, Cond.instanceMethod yJ0_indexOf_0f7a4]
def wsX5_isTown_r2 : List Cond := [Cond.selects RJ0 yJ0_indexOf_0f7a4 yJ0_indexOf_0f7a4, Cond.initialized RJ0, Cond.code yJ0_indexOf_0f7a4 cJ0_indexOf_0f7a4 2 (some .int), Cond.methodLink RJ0 633 yJ0_indexOf_7cf53, Cond.instanceMethod yJ0_indexOf_7cf53, Cond.selects RJ0 yJ0_indexOf_7cf53 yJ0_indexOf_7cf53, Cond.code yJ0_indexOf_7cf53 cJ0_indexOf_7cf53 3 (some .int), Cond.fieldLink RJ0 9 "java/lang/String" "value" "[B", Cond.methodLink RJ0 492 yJ0_isLatin1_aae02, Cond.instanceMethod yJ0_isLatin1_aae02, Cond.selects RJ0 yJ0_isLatin1_aae02 yJ0_isLatin1_aae02, Cond.code yJ0_isLatin1_aae02 cJ0_isLatin1_aae02 1 (some .boolean), Cond.fieldLink RJ0 38 "java/lang/String" "COMPACT_STRINGS" "Z", Cond.fieldLink RJ0 15 "java/lang/String" "coder" "B", Cond.methodLink RJ0 505 yJ0_length_8abf5, Cond.instanceMethod yJ0_length_8abf5, Cond.selects RJ0 yJ0_length_8abf5 yJ0_length_8abf5, Cond.code yJ0_length_8abf5 cJ0_length_8abf5 1 (some .int), Cond.methodLink RJ0 335 yJ0_coder_7d493, Cond.instanceMethod yJ0_coder_7d493, Cond.selects RJ0 yJ0_coder_7d493 yJ0_coder_7d493, Cond.code yJ0_coder_7d493 cJ0_coder_7d493 1 (some .byte), Cond.methodLink RJ0 637 yJ1_indexOf_4cfef, Cond.static yJ1_indexOf_4cfef]
def wsX5_isTown_r3 : List Cond := [Cond.initialized RJ1, Cond.code yJ1_indexOf_4cfef cJ1_indexOf_4cfef 4 (some .int), Cond.methodLink RJ1 92 Lib.Math.max.name, Cond.static Lib.Math.max.name, Cond.initialized "java/lang/Math", Cond.code Lib.Math.max.name Lib.Math.max.code 2 (some .int), Cond.methodLink RJ1 38 Lib.Math.min.name, Cond.static Lib.Math.min.name, Cond.code Lib.Math.min.name Lib.Math.min.code 2 (some .int), Cond.methodLink RJ1 88 yJ1_canEncode_9a6ad, Cond.static yJ1_canEncode_9a6ad, Cond.code yJ1_canEncode_9a6ad cJ1_canEncode_9a6ad 1 (some .boolean), Cond.methodLink RJ1 95 yJ1_indexOfChar_4cfef, Cond.static yJ1_indexOfChar_4cfef, Cond.code yJ1_indexOfChar_4cfef cJ1_indexOfChar_4cfef 6 (some .int), Cond.methodLink RJ0 640 yJ2_indexOf_4cfef, Cond.static yJ2_indexOf_4cfef, Cond.initialized RJ2, Cond.code yJ2_indexOf_4cfef cJ2_indexOf_4cfef 4 (some .int), Cond.methodLink RJ2 224 Lib.Math.max.name, Cond.methodLink RJ2 183 Lib.Math.min.name, Cond.constant RJ2 227 (65536), Cond.methodLink RJ2 228 yJ2_indexOfChar_4cfef, Cond.static yJ2_indexOfChar_4cfef]
def wsX5_isTown_r4 : List Cond := [Cond.code yJ2_indexOfChar_4cfef cJ2_indexOfChar_4cfef 4 (some .int), Cond.methodLink RJ2 96 yJ2_checkBoundsBeginEnd_d044e, Cond.static yJ2_checkBoundsBeginEnd_d044e, Cond.code yJ2_checkBoundsBeginEnd_d044e cJ2_checkBoundsBeginEnd_d044e 3 none, Cond.methodLink RJ2 48 yJ2_length_9d52b, Cond.static yJ2_length_9d52b, Cond.code yJ2_length_9d52b cJ2_length_9d52b 1 (some .int), Cond.methodLink RJ2 241 yJ0_checkBoundsBeginEnd_23922, Cond.static yJ0_checkBoundsBeginEnd_23922, Cond.code yJ0_checkBoundsBeginEnd_23922 cJ0_checkBoundsBeginEnd_23922 3 none, Cond.fieldLink RJ0 1053 "jdk/internal/util/Preconditions" "SIOOBE_FORMATTER" "Ljava/util/function/BiFunction;", Cond.methodLink RJ0 1062 yJ3_checkFromToIndex_8c36e, Cond.static yJ3_checkFromToIndex_8c36e, Cond.initialized RJ3, Cond.code yJ3_checkFromToIndex_8c36e cJ3_checkFromToIndex_8c36e 4 (some .int), Cond.methodLink RJ2 244 yJ2_indexOfCharUnsafe_4cfef, Cond.static yJ2_indexOfCharUnsafe_4cfef, Cond.code yJ2_indexOfCharUnsafe_4cfef cJ2_indexOfCharUnsafe_4cfef 5 (some .int), Cond.methodLink RJ2 71 yJ2_getChar_3b067, Cond.static yJ2_getChar_3b067, Cond.code yJ2_getChar_3b067 cJ2_getChar_3b067 2 (some .char), Cond.fieldLink RJ2 44 "java/lang/StringUTF16" "$assertionsDisabled" "Z", Cond.fieldLink RJ2 59 "java/lang/StringUTF16" "HI_BYTE_SHIFT" "I", Cond.fieldLink RJ2 63 "java/lang/StringUTF16" "LO_BYTE_SHIFT" "I"]
def wsX5_isTown_r5 : List Cond := [Cond.methodLink RJ2 232 yJ2_indexOfSupplementary_4cfef, Cond.static yJ2_indexOfSupplementary_4cfef, Cond.code yJ2_indexOfSupplementary_4cfef cJ2_indexOfSupplementary_4cfef 7 (some .int), Cond.methodLink RJ2 164 yJ11_isValidCodePoint_9a6ad, Cond.static yJ11_isValidCodePoint_9a6ad, Cond.initialized RJ11, Cond.code yJ11_isValidCodePoint_9a6ad cJ11_isValidCodePoint_9a6ad 2 (some .boolean), Cond.methodLink RJ2 157 yJ11_highSurrogate_5068e, Cond.static yJ11_highSurrogate_5068e, Cond.code yJ11_highSurrogate_5068e cJ11_highSurrogate_5068e 1 (some .char), Cond.constant RJ11 110 (55232), Cond.methodLink RJ2 161 yJ11_lowSurrogate_5068e, Cond.static yJ11_lowSurrogate_5068e, Cond.code yJ11_lowSurrogate_5068e cJ11_lowSurrogate_5068e 1 (some .char), Cond.constant RJ11 76 (56320), Cond.methodLink RX5 53 yX5_digitAt, Cond.instanceMethod yX5_digitAt, Cond.selects RX5 yX5_digitAt yX5_digitAt, Cond.code yX5_digitAt cX5_digitAt 2 (some .int), Cond.methodLink RX5 47 yX5_firstNobody, Cond.instanceMethod yX5_firstNobody, Cond.selects RX5 yX5_firstNobody yX5_firstNobody, Cond.code yX5_firstNobody cX5_firstNobody 4 (some .int), Cond.methodLink RX5 56 yX5_people]
def wsX5_isTown_r6 : List Cond := [Cond.instanceMethod yX5_people, Cond.selects RX5 yX5_people yX5_people, Cond.code yX5_people cX5_people 1 (some .int)]
def wsX5_isTown : List Cond := .code yX5_isTown cX5_isTown 1 (some .boolean) :: ((wsX5_isTown_r1 ++ (wsX5_isTown_r2 ++ (wsX5_isTown_r3 ++ (wsX5_isTown_r4 ++ (wsX5_isTown_r5 ++ wsX5_isTown_r6))))) ++ wsX50)
def wsX7_init : List Cond := .code yX7_init cX7_init 1 none :: ([.methodLink RX7 3 objectInit, .instanceMethod objectInit, .code objectInit ⟨#[0xb1]⟩ 1 none, .arrayClass .int, .fieldLink RX7 9 "SpeltByFriends$Plans" "writtenIn" "[I", .fieldLink RX7 15 "SpeltByFriends$Plans" "companies" "[I"] ++ wsX70)
def wsJ6_bitCount_0f7a4 : List Cond := .code yJ6_bitCount_0f7a4 cJ6_bitCount_0f7a4 1 (some .int) :: ([.constant RJ6 265 (1431655765), .constant RJ6 266 (858993459), .constant RJ6 267 (252645135)])
def wsX7_howManyDiffer : List Cond := .code yX7_howManyDiffer cX7_howManyDiffer 3 (some .int) :: ([.methodLink RX7 47 yJ6_bitCount_0f7a4, .static yJ6_bitCount_0f7a4, .initialized RJ6, .code yJ6_bitCount_0f7a4 cJ6_bitCount_0f7a4 1 (some .int), .constant RJ6 265 (1431655765), .constant RJ6 266 (858993459), .constant RJ6 267 (252645135)])
def wsX7_planMoves_r1 : List Cond := [Cond.fieldLink RX7 18 "SpeltByFriends$Town" "size" "I", Cond.fieldLink RX7 24 "SpeltByFriends$Town" "ledger" "LSpeltByFriends$Ledger;", Cond.fieldLink RX7 28 "SpeltByFriends$Ledger" "rooms" "I", Cond.fieldLink RX7 44 "SpeltByFriends$Plans" "bestRooms" "I", Cond.methodLink RX7 33 yX7_howManyDiffer, Cond.static yX7_howManyDiffer, Cond.initialized RX7, Cond.code yX7_howManyDiffer cX7_howManyDiffer 3 (some .int), Cond.methodLink RX7 47 yJ6_bitCount_0f7a4, Cond.static yJ6_bitCount_0f7a4, Cond.initialized RJ6, Cond.code yJ6_bitCount_0f7a4 cJ6_bitCount_0f7a4 1 (some .int), Cond.constant RJ6 265 (1431655765), Cond.constant RJ6 266 (858993459), Cond.constant RJ6 267 (252645135), Cond.methodLink RX7 37 yX9_companyIn, Cond.instanceMethod yX9_companyIn, Cond.selects RX9 yX9_companyIn yX9_companyIn, Cond.initialized RX9, Cond.code yX9_companyIn cX9_companyIn 6 (some .int), Cond.fieldLink RX9 56 "SpeltByFriends$Town" "size" "I", Cond.static yX11_roomIn, Cond.initialized RX11, Cond.code yX11_roomIn cX11_roomIn 2 (some .int)]
def wsX7_planMoves_r2 : List Cond := [Cond.methodLink RX11 239 yX11_shiftOf, Cond.static yX11_shiftOf, Cond.code yX11_shiftOf cX11_shiftOf 1 (some .int), Cond.methodLink RX7 40 yX9_canWrite, Cond.instanceMethod yX9_canWrite, Cond.selects RX9 yX9_canWrite yX9_canWrite, Cond.code yX9_canWrite cX9_canWrite 3 (some .boolean), Cond.fieldLink RX9 12 "SpeltByFriends$Town" "ledger" "LSpeltByFriends$Ledger;", Cond.fieldLink RX9 64 "SpeltByFriends$Ledger" "firstHolder" "[I", Cond.fieldLink RX9 75 "SpeltByFriends$Ledger" "lastHolder" "[I", Cond.static yX11_at, Cond.code yX11_at cX11_at 2 (some .int), Cond.methodLink RX9 99 yX9_couldWrite, Cond.instanceMethod yX9_couldWrite, Cond.selects RX9 yX9_couldWrite yX9_couldWrite, Cond.code yX9_couldWrite cX9_couldWrite 11 (some .boolean), Cond.fieldLink RX9 103 "SpeltByFriends$Ledger" "foes" "[I", Cond.methodLink RX9 85 yX9_personAt, Cond.instanceMethod yX9_personAt, Cond.selects RX9 yX9_personAt yX9_personAt, Cond.code yX9_personAt cX9_personAt 2 (some (.object "SpeltByFriends$Person")), Cond.fieldLink RX9 39 "SpeltByFriends$Town" "people" "[LSpeltByFriends$Person;", Cond.methodLink RX9 82 yX9_has, Cond.instanceMethod yX9_has]
def wsX7_planMoves_r3 : List Cond := [Cond.selects RX9 yX9_has yX9_has, Cond.code yX9_has cX9_has 2 (some .boolean), Cond.methodLink RX9 106 ⟨"SpeltByFriends$Person", "isSpelt", "(ZZII)Z"⟩, Cond.sameMethod "SpeltByFriends$Person" "SpeltByFriends$Person" "isSpelt" "(ZZII)Z", Cond.instanceMethod ⟨"SpeltByFriends$Person", "isSpelt", "(ZZII)Z"⟩, Cond.selects RX0 ⟨"SpeltByFriends$Person", "isSpelt", "(ZZII)Z"⟩ yX0_isSpelt, Cond.instanceMethod yX0_isSpelt, Cond.initialized RX0, Cond.code yX0_isSpelt cX0_isSpelt 5 (some .boolean), Cond.code yX6_isSpelt cX6_isSpelt 5 (some .boolean), Cond.selects RX2 ⟨"SpeltByFriends$Person", "isSpelt", "(ZZII)Z"⟩ yX2_isSpelt, Cond.instanceMethod yX2_isSpelt, Cond.initialized RX2, Cond.code yX2_isSpelt cX2_isSpelt 5 (some .boolean), Cond.methodLink RX9 106 yX6_isSpelt, Cond.instanceMethod yX6_isSpelt, Cond.selects RX6 yX6_isSpelt yX6_isSpelt, Cond.initialized RX6, Cond.selects RX8 ⟨"SpeltByFriends$Person", "isSpelt", "(ZZII)Z"⟩ yX8_isSpelt, Cond.instanceMethod yX8_isSpelt, Cond.initialized RX8, Cond.code yX8_isSpelt cX8_isSpelt 5 (some .boolean), Cond.selects RX10 ⟨"SpeltByFriends$Person", "isSpelt", "(ZZII)Z"⟩ yX10_isSpelt, Cond.instanceMethod yX10_isSpelt]
def wsX7_planMoves_r4 : List Cond := [Cond.initialized RX10, Cond.code yX10_isSpelt cX10_isSpelt 5 (some .boolean)]
def wsX7_planMoves : List Cond := .code yX7_planMoves cX7_planMoves 8 (some .int) :: ((wsX7_planMoves_r1 ++ (wsX7_planMoves_r2 ++ (wsX7_planMoves_r3 ++ wsX7_planMoves_r4))) ++ wsX90 ++ wsX30 ++ wsX70)
def wsX7_whoIsWritten_r1 : List Cond := [Cond.fieldLink RX7 18 "SpeltByFriends$Town" "size" "I", Cond.methodLink RX7 40 yX9_canWrite, Cond.instanceMethod yX9_canWrite, Cond.selects RX9 yX9_canWrite yX9_canWrite, Cond.initialized RX9, Cond.code yX9_canWrite cX9_canWrite 3 (some .boolean), Cond.fieldLink RX9 12 "SpeltByFriends$Town" "ledger" "LSpeltByFriends$Ledger;", Cond.fieldLink RX9 64 "SpeltByFriends$Ledger" "firstHolder" "[I", Cond.fieldLink RX9 75 "SpeltByFriends$Ledger" "lastHolder" "[I", Cond.static yX11_at, Cond.initialized RX11, Cond.code yX11_at cX11_at 2 (some .int), Cond.methodLink RX9 99 yX9_couldWrite, Cond.instanceMethod yX9_couldWrite, Cond.selects RX9 yX9_couldWrite yX9_couldWrite, Cond.code yX9_couldWrite cX9_couldWrite 11 (some .boolean), Cond.fieldLink RX9 103 "SpeltByFriends$Ledger" "foes" "[I", Cond.methodLink RX9 85 yX9_personAt, Cond.instanceMethod yX9_personAt, Cond.selects RX9 yX9_personAt yX9_personAt, Cond.code yX9_personAt cX9_personAt 2 (some (.object "SpeltByFriends$Person")), Cond.fieldLink RX9 39 "SpeltByFriends$Town" "people" "[LSpeltByFriends$Person;", Cond.methodLink RX9 82 yX9_has, Cond.instanceMethod yX9_has]
def wsX7_whoIsWritten_r2 : List Cond := [Cond.selects RX9 yX9_has yX9_has, Cond.code yX9_has cX9_has 2 (some .boolean), Cond.fieldLink RX9 56 "SpeltByFriends$Town" "size" "I", Cond.methodLink RX9 106 ⟨"SpeltByFriends$Person", "isSpelt", "(ZZII)Z"⟩, Cond.sameMethod "SpeltByFriends$Person" "SpeltByFriends$Person" "isSpelt" "(ZZII)Z", Cond.instanceMethod ⟨"SpeltByFriends$Person", "isSpelt", "(ZZII)Z"⟩, Cond.selects RX0 ⟨"SpeltByFriends$Person", "isSpelt", "(ZZII)Z"⟩ yX0_isSpelt, Cond.instanceMethod yX0_isSpelt, Cond.initialized RX0, Cond.code yX0_isSpelt cX0_isSpelt 5 (some .boolean), Cond.code yX6_isSpelt cX6_isSpelt 5 (some .boolean), Cond.selects RX2 ⟨"SpeltByFriends$Person", "isSpelt", "(ZZII)Z"⟩ yX2_isSpelt, Cond.instanceMethod yX2_isSpelt, Cond.initialized RX2, Cond.code yX2_isSpelt cX2_isSpelt 5 (some .boolean), Cond.methodLink RX9 106 yX6_isSpelt, Cond.instanceMethod yX6_isSpelt, Cond.selects RX6 yX6_isSpelt yX6_isSpelt, Cond.initialized RX6, Cond.selects RX8 ⟨"SpeltByFriends$Person", "isSpelt", "(ZZII)Z"⟩ yX8_isSpelt, Cond.instanceMethod yX8_isSpelt, Cond.initialized RX8, Cond.code yX8_isSpelt cX8_isSpelt 5 (some .boolean), Cond.selects RX10 ⟨"SpeltByFriends$Person", "isSpelt", "(ZZII)Z"⟩ yX10_isSpelt]
def wsX7_whoIsWritten_r3 : List Cond := [Cond.instanceMethod yX10_isSpelt, Cond.initialized RX10, Cond.code yX10_isSpelt cX10_isSpelt 5 (some .boolean)]
def wsX7_whoIsWritten : List Cond := .code yX7_whoIsWritten cX7_whoIsWritten 5 (some .int) :: ((wsX7_whoIsWritten_r1 ++ (wsX7_whoIsWritten_r2 ++ wsX7_whoIsWritten_r3)) ++ wsX90 ++ wsX30)
def wsX7_cover : List Cond := .code yX7_cover cX7_cover 6 (some .boolean) :: ([.fieldLink RX7 53 "SpeltByFriends$Plans" "companiesEnd" "I", .fieldLink RX7 9 "SpeltByFriends$Plans" "writtenIn" "[I", .fieldLink RX7 15 "SpeltByFriends$Plans" "companies" "[I", .static yX11_at, .initialized RX11, .code yX11_at cX11_at 2 (some .int), .methodLink RX7 64 yX7_cover, .instanceMethod yX7_cover, .selects RX7 yX7_cover yX7_cover, .initialized RX7, .static yX11_put, .code yX11_put cX11_put 3 none] ++ wsX70)
def wsX7_planDays_r1 : List Cond := [Cond.fieldLink RX7 18 "SpeltByFriends$Town" "size" "I", Cond.fieldLink RX7 53 "SpeltByFriends$Plans" "companiesEnd" "I", Cond.fieldLink RX7 9 "SpeltByFriends$Plans" "writtenIn" "[I", Cond.methodLink RX7 56 yX7_whoIsWritten, Cond.instanceMethod yX7_whoIsWritten, Cond.selects RX7 yX7_whoIsWritten yX7_whoIsWritten, Cond.initialized RX7, Cond.code yX7_whoIsWritten cX7_whoIsWritten 5 (some .int), Cond.methodLink RX7 40 yX9_canWrite, Cond.instanceMethod yX9_canWrite, Cond.selects RX9 yX9_canWrite yX9_canWrite, Cond.initialized RX9, Cond.code yX9_canWrite cX9_canWrite 3 (some .boolean), Cond.fieldLink RX9 12 "SpeltByFriends$Town" "ledger" "LSpeltByFriends$Ledger;", Cond.fieldLink RX9 64 "SpeltByFriends$Ledger" "firstHolder" "[I", Cond.fieldLink RX9 75 "SpeltByFriends$Ledger" "lastHolder" "[I", Cond.static yX11_at, Cond.initialized RX11, Cond.code yX11_at cX11_at 2 (some .int), Cond.methodLink RX9 99 yX9_couldWrite, Cond.instanceMethod yX9_couldWrite, Cond.selects RX9 yX9_couldWrite yX9_couldWrite, Cond.code yX9_couldWrite cX9_couldWrite 11 (some .boolean), Cond.fieldLink RX9 103 "SpeltByFriends$Ledger" "foes" "[I"]
def wsX7_planDays_r2 : List Cond := [Cond.methodLink RX9 85 yX9_personAt, Cond.instanceMethod yX9_personAt, Cond.selects RX9 yX9_personAt yX9_personAt, Cond.code yX9_personAt cX9_personAt 2 (some (.object "SpeltByFriends$Person")), Cond.fieldLink RX9 39 "SpeltByFriends$Town" "people" "[LSpeltByFriends$Person;", Cond.methodLink RX9 82 yX9_has, Cond.instanceMethod yX9_has, Cond.selects RX9 yX9_has yX9_has, Cond.code yX9_has cX9_has 2 (some .boolean), Cond.fieldLink RX9 56 "SpeltByFriends$Town" "size" "I", Cond.methodLink RX9 106 ⟨"SpeltByFriends$Person", "isSpelt", "(ZZII)Z"⟩, Cond.sameMethod "SpeltByFriends$Person" "SpeltByFriends$Person" "isSpelt" "(ZZII)Z", Cond.instanceMethod ⟨"SpeltByFriends$Person", "isSpelt", "(ZZII)Z"⟩, Cond.selects RX0 ⟨"SpeltByFriends$Person", "isSpelt", "(ZZII)Z"⟩ yX0_isSpelt, Cond.instanceMethod yX0_isSpelt, Cond.initialized RX0, Cond.code yX0_isSpelt cX0_isSpelt 5 (some .boolean), Cond.code yX6_isSpelt cX6_isSpelt 5 (some .boolean), Cond.selects RX2 ⟨"SpeltByFriends$Person", "isSpelt", "(ZZII)Z"⟩ yX2_isSpelt, Cond.instanceMethod yX2_isSpelt, Cond.initialized RX2, Cond.code yX2_isSpelt cX2_isSpelt 5 (some .boolean), Cond.methodLink RX9 106 yX6_isSpelt, Cond.instanceMethod yX6_isSpelt]
def wsX7_planDays_r3 : List Cond := [Cond.selects RX6 yX6_isSpelt yX6_isSpelt, Cond.initialized RX6, Cond.selects RX8 ⟨"SpeltByFriends$Person", "isSpelt", "(ZZII)Z"⟩ yX8_isSpelt, Cond.instanceMethod yX8_isSpelt, Cond.initialized RX8, Cond.code yX8_isSpelt cX8_isSpelt 5 (some .boolean), Cond.selects RX10 ⟨"SpeltByFriends$Person", "isSpelt", "(ZZII)Z"⟩ yX10_isSpelt, Cond.instanceMethod yX10_isSpelt, Cond.initialized RX10, Cond.code yX10_isSpelt cX10_isSpelt 5 (some .boolean), Cond.static yX11_put, Cond.code yX11_put cX11_put 3 none, Cond.methodLink RX7 64 yX7_cover, Cond.instanceMethod yX7_cover, Cond.selects RX7 yX7_cover yX7_cover, Cond.code yX7_cover cX7_cover 6 (some .boolean), Cond.fieldLink RX7 15 "SpeltByFriends$Plans" "companies" "[I"]
def wsX7_planDays : List Cond := .code yX7_planDays cX7_planDays 4 (some .int) :: ((wsX7_planDays_r1 ++ (wsX7_planDays_r2 ++ wsX7_planDays_r3)) ++ wsX90 ++ wsX70 ++ wsX30)
def wsX8_init : List Cond := .code yX8_init cX8_init 1 none :: ([.methodLink RX8 1 yX6_init, .instanceMethod yX6_init, .initialized RX6, .code yX6_init cX6_init 2 none, .methodLink RX6 1 objectInit, .instanceMethod objectInit, .code objectInit ⟨#[0xb1]⟩ 1 none, .fieldLink RX6 7 "SpeltByFriends$Person" "kind" "I"] ++ wsX00 ++ wsX20 ++ wsX60 ++ wsX80 ++ wsX100)
def wsX10_init : List Cond := .code yX10_init cX10_init 1 none :: ([.methodLink RX10 1 yX0_init, .instanceMethod yX0_init, .initialized RX0, .code yX0_init cX0_init 2 none, .methodLink RX0 1 yX6_init, .instanceMethod yX6_init, .initialized RX6, .code yX6_init cX6_init 2 none, .methodLink RX6 1 objectInit, .instanceMethod objectInit, .code objectInit ⟨#[0xb1]⟩ 1 none, .fieldLink RX6 7 "SpeltByFriends$Person" "kind" "I"] ++ wsX00 ++ wsX20 ++ wsX60 ++ wsX80 ++ wsX100)
def wsX9_init_r1 : List Cond := [Cond.methodLink RX9 3 objectInit, Cond.instanceMethod objectInit, Cond.code objectInit ⟨#[0xb1]⟩ 1 none, Cond.classLink RX9 9 RX3, Cond.instantiable RX3 10, Cond.initialized RX3, Cond.fieldLink RX9 12 "SpeltByFriends$Town" "ledger" "LSpeltByFriends$Ledger;", Cond.classLink RX9 18 RX6, Cond.instantiable RX6 1, Cond.initialized RX6, Cond.classLink RX9 23 RX2, Cond.instantiable RX2 1, Cond.initialized RX2, Cond.classLink RX9 26 RX0, Cond.instantiable RX0 1, Cond.initialized RX0, Cond.classLink RX9 29 RX8, Cond.instantiable RX8 1, Cond.initialized RX8, Cond.classLink RX9 32 RX10, Cond.instantiable RX10 1, Cond.initialized RX10, Cond.fieldLink RX9 35 "SpeltByFriends$Town" "kinds" "[LSpeltByFriends$Person;", Cond.fieldLink RX9 39 "SpeltByFriends$Town" "people" "[LSpeltByFriends$Person;"]
def wsX9_init_r2 : List Cond := [Cond.instanceMethod yX3_init, Cond.code yX3_init cX3_init 1 none, Cond.methodLink RX3 3 objectInit, Cond.arrayClass .int, Cond.fieldLink RX3 9 "SpeltByFriends$Ledger" "firstHolder" "[I", Cond.fieldLink RX3 15 "SpeltByFriends$Ledger" "lastHolder" "[I", Cond.fieldLink RX3 18 "SpeltByFriends$Ledger" "foes" "[I", Cond.fieldLink RX3 21 "SpeltByFriends$Ledger" "heardOf" "[I", Cond.fieldLink RX3 24 "SpeltByFriends$Ledger" "heardIn" "[I", Cond.fieldLink RX3 27 "SpeltByFriends$Ledger" "heardYes" "[I", Cond.methodLink RX9 20 yX6_init, Cond.instanceMethod yX6_init, Cond.code yX6_init cX6_init 2 none, Cond.methodLink RX6 1 objectInit, Cond.fieldLink RX6 7 "SpeltByFriends$Person" "kind" "I", Cond.methodLink RX9 25 yX2_init, Cond.instanceMethod yX2_init, Cond.code yX2_init cX2_init 1 none, Cond.methodLink RX2 1 yX6_init, Cond.methodLink RX9 28 yX0_init, Cond.instanceMethod yX0_init, Cond.code yX0_init cX0_init 2 none, Cond.methodLink RX0 1 yX6_init, Cond.methodLink RX9 31 yX8_init]
def wsX9_init_r3 : List Cond := [Cond.instanceMethod yX8_init, Cond.code yX8_init cX8_init 1 none, Cond.methodLink RX8 1 yX6_init, Cond.methodLink RX9 34 yX10_init, Cond.instanceMethod yX10_init, Cond.code yX10_init cX10_init 1 none, Cond.methodLink RX10 1 yX0_init]
def wsX9_init : List Cond := .code yX9_init cX9_init 1 none :: ((wsX9_init_r1 ++ (wsX9_init_r2 ++ wsX9_init_r3)) ++ wsX30 ++ wsX90 ++ wsX60 ++ wsX20 ++ wsX00 ++ wsX80 ++ wsX100)
def wsX9_settle_r1 : List Cond := [Cond.fieldLink RX9 12 "SpeltByFriends$Town" "ledger" "LSpeltByFriends$Ledger;", Cond.methodLink RX9 50 Lib.Math.min.name, Cond.static Lib.Math.min.name, Cond.initialized "java/lang/Math", Cond.code Lib.Math.min.name Lib.Math.min.code 2 (some .int), Cond.fieldLink RX9 56 "SpeltByFriends$Town" "size" "I", Cond.fieldLink RX9 39 "SpeltByFriends$Town" "people" "[LSpeltByFriends$Person;", Cond.fieldLink RX9 35 "SpeltByFriends$Town" "kinds" "[LSpeltByFriends$Person;", Cond.fieldLink RX9 64 "SpeltByFriends$Ledger" "firstHolder" "[I", Cond.fieldLink RX9 75 "SpeltByFriends$Ledger" "lastHolder" "[I", Cond.methodLink RX9 42 yX3_clear, Cond.instanceMethod yX3_clear, Cond.selects RX3 yX3_clear yX3_clear, Cond.initialized RX3, Cond.code yX3_clear cX3_clear 2 none, Cond.fieldLink RX3 9 "SpeltByFriends$Ledger" "firstHolder" "[I", Cond.fieldLink RX3 15 "SpeltByFriends$Ledger" "lastHolder" "[I", Cond.fieldLink RX3 18 "SpeltByFriends$Ledger" "foes" "[I", Cond.fieldLink RX3 34 "SpeltByFriends$Ledger" "rooms" "I", Cond.fieldLink RX3 38 "SpeltByFriends$Ledger" "heard" "I", Cond.fieldLink RX3 41 "SpeltByFriends$Ledger" "went" "I", Cond.fieldLink RX3 44 "SpeltByFriends$Ledger" "sold" "I", Cond.static yX11_put, Cond.initialized RX11]
def wsX9_settle_r2 : List Cond := [Cond.code yX11_put cX11_put 3 none, Cond.methodLink RX9 45 yX5_people, Cond.instanceMethod yX5_people, Cond.selects RX5 yX5_people yX5_people, Cond.initialized RX5, Cond.code yX5_people cX5_people 1 (some .int), Cond.fieldLink RX5 15 "SpeltByFriends$Page" "length" "I", Cond.methodLink RX9 60 yX5_kindAt, Cond.instanceMethod yX5_kindAt, Cond.selects RX5 yX5_kindAt yX5_kindAt, Cond.code yX5_kindAt cX5_kindAt 2 (some .int), Cond.fieldLink RX5 9 "SpeltByFriends$Page" "letters" "[I", Cond.static yX11_at, Cond.code yX11_at cX11_at 2 (some .int), Cond.methodLink RX5 37 yJ0_indexOf_0f7a4, Cond.instanceMethod yJ0_indexOf_0f7a4, Cond.selects RJ0 yJ0_indexOf_0f7a4 yJ0_indexOf_0f7a4, Cond.initialized RJ0, Cond.code yJ0_indexOf_0f7a4 cJ0_indexOf_0f7a4 2 (some .int), Cond.methodLink RJ0 633 yJ0_indexOf_7cf53, Cond.instanceMethod yJ0_indexOf_7cf53, Cond.selects RJ0 yJ0_indexOf_7cf53 yJ0_indexOf_7cf53, Cond.code yJ0_indexOf_7cf53 cJ0_indexOf_7cf53 3 (some .int), Cond.fieldLink RJ0 9 "java/lang/String" "value" "[B"]
def wsX9_settle_r3 : List Cond := [Cond.methodLink RJ0 492 yJ0_isLatin1_aae02, Cond.instanceMethod yJ0_isLatin1_aae02, Cond.selects RJ0 yJ0_isLatin1_aae02 yJ0_isLatin1_aae02, Cond.code yJ0_isLatin1_aae02 cJ0_isLatin1_aae02 1 (some .boolean), Cond.fieldLink RJ0 38 "java/lang/String" "COMPACT_STRINGS" "Z", Cond.fieldLink RJ0 15 "java/lang/String" "coder" "B", Cond.methodLink RJ0 505 yJ0_length_8abf5, Cond.instanceMethod yJ0_length_8abf5, Cond.selects RJ0 yJ0_length_8abf5 yJ0_length_8abf5, Cond.code yJ0_length_8abf5 cJ0_length_8abf5 1 (some .int), Cond.methodLink RJ0 335 yJ0_coder_7d493, Cond.instanceMethod yJ0_coder_7d493, Cond.selects RJ0 yJ0_coder_7d493 yJ0_coder_7d493, Cond.code yJ0_coder_7d493 cJ0_coder_7d493 1 (some .byte), Cond.methodLink RJ0 637 yJ1_indexOf_4cfef, Cond.static yJ1_indexOf_4cfef, Cond.initialized RJ1, Cond.code yJ1_indexOf_4cfef cJ1_indexOf_4cfef 4 (some .int), Cond.methodLink RJ1 92 Lib.Math.max.name, Cond.static Lib.Math.max.name, Cond.code Lib.Math.max.name Lib.Math.max.code 2 (some .int), Cond.methodLink RJ1 38 Lib.Math.min.name, Cond.methodLink RJ1 88 yJ1_canEncode_9a6ad, Cond.static yJ1_canEncode_9a6ad]
def wsX9_settle_r4 : List Cond := [Cond.code yJ1_canEncode_9a6ad cJ1_canEncode_9a6ad 1 (some .boolean), Cond.methodLink RJ1 95 yJ1_indexOfChar_4cfef, Cond.static yJ1_indexOfChar_4cfef, Cond.code yJ1_indexOfChar_4cfef cJ1_indexOfChar_4cfef 6 (some .int), Cond.methodLink RJ0 640 yJ2_indexOf_4cfef, Cond.static yJ2_indexOf_4cfef, Cond.initialized RJ2, Cond.code yJ2_indexOf_4cfef cJ2_indexOf_4cfef 4 (some .int), Cond.methodLink RJ2 224 Lib.Math.max.name, Cond.methodLink RJ2 183 Lib.Math.min.name, Cond.constant RJ2 227 (65536), Cond.methodLink RJ2 228 yJ2_indexOfChar_4cfef, Cond.static yJ2_indexOfChar_4cfef, Cond.code yJ2_indexOfChar_4cfef cJ2_indexOfChar_4cfef 4 (some .int), Cond.methodLink RJ2 96 yJ2_checkBoundsBeginEnd_d044e, Cond.static yJ2_checkBoundsBeginEnd_d044e, Cond.code yJ2_checkBoundsBeginEnd_d044e cJ2_checkBoundsBeginEnd_d044e 3 none, Cond.methodLink RJ2 48 yJ2_length_9d52b, Cond.static yJ2_length_9d52b, Cond.code yJ2_length_9d52b cJ2_length_9d52b 1 (some .int), Cond.methodLink RJ2 241 yJ0_checkBoundsBeginEnd_23922, Cond.static yJ0_checkBoundsBeginEnd_23922, Cond.code yJ0_checkBoundsBeginEnd_23922 cJ0_checkBoundsBeginEnd_23922 3 none, Cond.fieldLink RJ0 1053 "jdk/internal/util/Preconditions" "SIOOBE_FORMATTER" "Ljava/util/function/BiFunction;"]
def wsX9_settle_r5 : List Cond := [Cond.methodLink RJ0 1062 yJ3_checkFromToIndex_8c36e, Cond.static yJ3_checkFromToIndex_8c36e, Cond.initialized RJ3, Cond.code yJ3_checkFromToIndex_8c36e cJ3_checkFromToIndex_8c36e 4 (some .int), Cond.methodLink RJ2 244 yJ2_indexOfCharUnsafe_4cfef, Cond.static yJ2_indexOfCharUnsafe_4cfef, Cond.code yJ2_indexOfCharUnsafe_4cfef cJ2_indexOfCharUnsafe_4cfef 5 (some .int), Cond.methodLink RJ2 71 yJ2_getChar_3b067, Cond.static yJ2_getChar_3b067, Cond.code yJ2_getChar_3b067 cJ2_getChar_3b067 2 (some .char), Cond.fieldLink RJ2 44 "java/lang/StringUTF16" "$assertionsDisabled" "Z", Cond.fieldLink RJ2 59 "java/lang/StringUTF16" "HI_BYTE_SHIFT" "I", Cond.fieldLink RJ2 63 "java/lang/StringUTF16" "LO_BYTE_SHIFT" "I", Cond.methodLink RJ2 232 yJ2_indexOfSupplementary_4cfef, Cond.static yJ2_indexOfSupplementary_4cfef, Cond.code yJ2_indexOfSupplementary_4cfef cJ2_indexOfSupplementary_4cfef 7 (some .int), Cond.methodLink RJ2 164 yJ11_isValidCodePoint_9a6ad, Cond.static yJ11_isValidCodePoint_9a6ad, Cond.initialized RJ11, Cond.code yJ11_isValidCodePoint_9a6ad cJ11_isValidCodePoint_9a6ad 2 (some .boolean), Cond.methodLink RJ2 157 yJ11_highSurrogate_5068e, Cond.static yJ11_highSurrogate_5068e, Cond.code yJ11_highSurrogate_5068e cJ11_highSurrogate_5068e 1 (some .char), Cond.constant RJ11 110 (55232)]
def wsX9_settle_r6 : List Cond := [Cond.methodLink RJ2 161 yJ11_lowSurrogate_5068e, Cond.static yJ11_lowSurrogate_5068e, Cond.code yJ11_lowSurrogate_5068e cJ11_lowSurrogate_5068e 1 (some .char), Cond.constant RJ11 76 (56320), Cond.methodLink RX9 68 yX5_digitAt, Cond.instanceMethod yX5_digitAt, Cond.selects RX5 yX5_digitAt yX5_digitAt, Cond.code yX5_digitAt cX5_digitAt 2 (some .int)]
def wsX9_settle : List Cond := .code yX9_settle cX9_settle 4 none :: ((wsX9_settle_r1 ++ (wsX9_settle_r2 ++ (wsX9_settle_r3 ++ (wsX9_settle_r4 ++ (wsX9_settle_r5 ++ wsX9_settle_r6))))) ++ wsX90 ++ wsX30 ++ wsX50)
def wsX9_kindOf : List Cond := .code yX9_kindOf cX9_kindOf 3 (some .int) :: ([.fieldLink RX9 89 "SpeltByFriends$Person" "kind" "I", .methodLink RX9 85 yX9_personAt, .instanceMethod yX9_personAt, .selects RX9 yX9_personAt yX9_personAt, .initialized RX9, .code yX9_personAt cX9_personAt 2 (some (.object "SpeltByFriends$Person")), .fieldLink RX9 39 "SpeltByFriends$Town" "people" "[LSpeltByFriends$Person;", .methodLink RX9 82 yX9_has, .instanceMethod yX9_has, .selects RX9 yX9_has yX9_has, .code yX9_has cX9_has 2 (some .boolean), .fieldLink RX9 56 "SpeltByFriends$Town" "size" "I"] ++ wsX00 ++ wsX20 ++ wsX60 ++ wsX80 ++ wsX100 ++ wsX90)
def wsX9_quarrellingPairs : List Cond := .code yX9_quarrellingPairs cX9_quarrellingPairs 3 (some .int) :: ([.fieldLink RX9 56 "SpeltByFriends$Town" "size" "I", .fieldLink RX9 12 "SpeltByFriends$Town" "ledger" "LSpeltByFriends$Ledger;", .fieldLink RX9 103 "SpeltByFriends$Ledger" "foes" "[I", .static yX11_at, .initialized RX11, .code yX11_at cX11_at 2 (some .int), .methodLink RX9 117 yJ6_bitCount_0f7a4, .static yJ6_bitCount_0f7a4, .initialized RJ6, .code yJ6_bitCount_0f7a4 cJ6_bitCount_0f7a4 1 (some .int), .constant RJ6 265 (1431655765), .constant RJ6 266 (858993459), .constant RJ6 267 (252645135)] ++ wsX90 ++ wsX30)
def wsX9_lettersOfOthers : List Cond := .code yX9_lettersOfOthers cX9_lettersOfOthers 4 (some .int) :: ([.fieldLink RX9 56 "SpeltByFriends$Town" "size" "I", .fieldLink RX9 12 "SpeltByFriends$Town" "ledger" "LSpeltByFriends$Ledger;", .fieldLink RX9 64 "SpeltByFriends$Ledger" "firstHolder" "[I", .fieldLink RX9 75 "SpeltByFriends$Ledger" "lastHolder" "[I", .static yX11_at, .initialized RX11, .code yX11_at cX11_at 2 (some .int)] ++ wsX90 ++ wsX30)
def wsX9_wants_r1 : List Cond := [Cond.fieldLink RX9 56 "SpeltByFriends$Town" "size" "I", Cond.methodLink RX9 113 yX9_canWrite, Cond.instanceMethod yX9_canWrite, Cond.selects RX9 yX9_canWrite yX9_canWrite, Cond.initialized RX9, Cond.code yX9_canWrite cX9_canWrite 3 (some .boolean), Cond.fieldLink RX9 12 "SpeltByFriends$Town" "ledger" "LSpeltByFriends$Ledger;", Cond.fieldLink RX9 64 "SpeltByFriends$Ledger" "firstHolder" "[I", Cond.fieldLink RX9 75 "SpeltByFriends$Ledger" "lastHolder" "[I", Cond.static yX11_at, Cond.initialized RX11, Cond.code yX11_at cX11_at 2 (some .int), Cond.methodLink RX9 99 yX9_couldWrite, Cond.instanceMethod yX9_couldWrite, Cond.selects RX9 yX9_couldWrite yX9_couldWrite, Cond.code yX9_couldWrite cX9_couldWrite 11 (some .boolean), Cond.fieldLink RX9 103 "SpeltByFriends$Ledger" "foes" "[I", Cond.methodLink RX9 85 yX9_personAt, Cond.instanceMethod yX9_personAt, Cond.selects RX9 yX9_personAt yX9_personAt, Cond.code yX9_personAt cX9_personAt 2 (some (.object "SpeltByFriends$Person")), Cond.fieldLink RX9 39 "SpeltByFriends$Town" "people" "[LSpeltByFriends$Person;", Cond.methodLink RX9 82 yX9_has, Cond.instanceMethod yX9_has]
def wsX9_wants_r2 : List Cond := [Cond.selects RX9 yX9_has yX9_has, Cond.code yX9_has cX9_has 2 (some .boolean), Cond.methodLink RX9 106 ⟨"SpeltByFriends$Person", "isSpelt", "(ZZII)Z"⟩, Cond.sameMethod "SpeltByFriends$Person" "SpeltByFriends$Person" "isSpelt" "(ZZII)Z", Cond.instanceMethod ⟨"SpeltByFriends$Person", "isSpelt", "(ZZII)Z"⟩, Cond.selects RX0 ⟨"SpeltByFriends$Person", "isSpelt", "(ZZII)Z"⟩ yX0_isSpelt, Cond.instanceMethod yX0_isSpelt, Cond.initialized RX0, Cond.code yX0_isSpelt cX0_isSpelt 5 (some .boolean), Cond.code yX6_isSpelt cX6_isSpelt 5 (some .boolean), Cond.selects RX2 ⟨"SpeltByFriends$Person", "isSpelt", "(ZZII)Z"⟩ yX2_isSpelt, Cond.instanceMethod yX2_isSpelt, Cond.initialized RX2, Cond.code yX2_isSpelt cX2_isSpelt 5 (some .boolean), Cond.methodLink RX9 106 yX6_isSpelt, Cond.instanceMethod yX6_isSpelt, Cond.selects RX6 yX6_isSpelt yX6_isSpelt, Cond.initialized RX6, Cond.selects RX8 ⟨"SpeltByFriends$Person", "isSpelt", "(ZZII)Z"⟩ yX8_isSpelt, Cond.instanceMethod yX8_isSpelt, Cond.initialized RX8, Cond.code yX8_isSpelt cX8_isSpelt 5 (some .boolean), Cond.selects RX10 ⟨"SpeltByFriends$Person", "isSpelt", "(ZZII)Z"⟩ yX10_isSpelt, Cond.instanceMethod yX10_isSpelt]
def wsX9_wants_r3 : List Cond := [Cond.initialized RX10, Cond.code yX10_isSpelt cX10_isSpelt 5 (some .boolean)]
def wsX9_wants : List Cond := .code yX9_wants cX9_wants 4 (some .int) :: ((wsX9_wants_r1 ++ (wsX9_wants_r2 ++ wsX9_wants_r3)) ++ wsX90 ++ wsX30)
def wsX11_init_r1 : List Cond := [Cond.methodLink RX11 1 objectInit, Cond.instanceMethod objectInit, Cond.code objectInit ⟨#[0xb1]⟩ 1 none, Cond.classLink RX11 7 RX5, Cond.instantiable RX5 2, Cond.initialized RX5, Cond.fieldLink RX11 10 "SpeltByFriends" "page" "LSpeltByFriends$Page;", Cond.classLink RX11 16 RX9, Cond.instantiable RX9 4, Cond.initialized RX9, Cond.fieldLink RX11 19 "SpeltByFriends" "here" "LSpeltByFriends$Town;", Cond.classLink RX11 23 RX3, Cond.instantiable RX3 10, Cond.initialized RX3, Cond.fieldLink RX11 26 "SpeltByFriends" "kept" "LSpeltByFriends$Ledger;", Cond.classLink RX11 30 RX7, Cond.instantiable RX7 4, Cond.initialized RX7, Cond.fieldLink RX11 33 "SpeltByFriends" "plans" "LSpeltByFriends$Plans;", Cond.classLink RX11 37 RX1, Cond.instantiable RX1 4, Cond.initialized RX1, Cond.fieldLink RX11 40 "SpeltByFriends" "guesses" "LSpeltByFriends$Guesses;", Cond.classLink RX11 44 RX4]
def wsX11_init_r2 : List Cond := [Cond.instantiable RX4 3, Cond.initialized RX4, Cond.fieldLink RX11 47 "SpeltByFriends" "lottery" "LSpeltByFriends$Lottery;", Cond.instanceMethod yX5_init, Cond.code yX5_init cX5_init 1 none, Cond.methodLink RX5 3 objectInit, Cond.arrayClass .int, Cond.fieldLink RX5 9 "SpeltByFriends$Page" "letters" "[I", Cond.instanceMethod yX9_init, Cond.code yX9_init cX9_init 1 none, Cond.methodLink RX9 3 objectInit, Cond.classLink RX9 9 RX3, Cond.fieldLink RX9 12 "SpeltByFriends$Town" "ledger" "LSpeltByFriends$Ledger;", Cond.classLink RX9 18 RX6, Cond.instantiable RX6 1, Cond.initialized RX6, Cond.classLink RX9 23 RX2, Cond.instantiable RX2 1, Cond.initialized RX2, Cond.classLink RX9 26 RX0, Cond.instantiable RX0 1, Cond.initialized RX0, Cond.classLink RX9 29 RX8, Cond.instantiable RX8 1]
def wsX11_init_r3 : List Cond := [Cond.initialized RX8, Cond.classLink RX9 32 RX10, Cond.instantiable RX10 1, Cond.initialized RX10, Cond.fieldLink RX9 35 "SpeltByFriends$Town" "kinds" "[LSpeltByFriends$Person;", Cond.fieldLink RX9 39 "SpeltByFriends$Town" "people" "[LSpeltByFriends$Person;", Cond.instanceMethod yX3_init, Cond.code yX3_init cX3_init 1 none, Cond.methodLink RX3 3 objectInit, Cond.fieldLink RX3 9 "SpeltByFriends$Ledger" "firstHolder" "[I", Cond.fieldLink RX3 15 "SpeltByFriends$Ledger" "lastHolder" "[I", Cond.fieldLink RX3 18 "SpeltByFriends$Ledger" "foes" "[I", Cond.fieldLink RX3 21 "SpeltByFriends$Ledger" "heardOf" "[I", Cond.fieldLink RX3 24 "SpeltByFriends$Ledger" "heardIn" "[I", Cond.fieldLink RX3 27 "SpeltByFriends$Ledger" "heardYes" "[I", Cond.methodLink RX9 20 yX6_init, Cond.instanceMethod yX6_init, Cond.code yX6_init cX6_init 2 none, Cond.methodLink RX6 1 objectInit, Cond.fieldLink RX6 7 "SpeltByFriends$Person" "kind" "I", Cond.methodLink RX9 25 yX2_init, Cond.instanceMethod yX2_init, Cond.code yX2_init cX2_init 1 none, Cond.methodLink RX2 1 yX6_init]
def wsX11_init_r4 : List Cond := [Cond.methodLink RX9 28 yX0_init, Cond.instanceMethod yX0_init, Cond.code yX0_init cX0_init 2 none, Cond.methodLink RX0 1 yX6_init, Cond.methodLink RX9 31 yX8_init, Cond.instanceMethod yX8_init, Cond.code yX8_init cX8_init 1 none, Cond.methodLink RX8 1 yX6_init, Cond.methodLink RX9 34 yX10_init, Cond.instanceMethod yX10_init, Cond.code yX10_init cX10_init 1 none, Cond.methodLink RX10 1 yX0_init, Cond.instanceMethod yX7_init, Cond.code yX7_init cX7_init 1 none, Cond.methodLink RX7 3 objectInit, Cond.fieldLink RX7 9 "SpeltByFriends$Plans" "writtenIn" "[I", Cond.fieldLink RX7 15 "SpeltByFriends$Plans" "companies" "[I", Cond.instanceMethod yX1_init, Cond.code yX1_init cX1_init 1 none, Cond.methodLink RX1 3 objectInit, Cond.fieldLink RX1 9 "SpeltByFriends$Guesses" "firsts" "[I", Cond.fieldLink RX1 15 "SpeltByFriends$Guesses" "lasts" "[I", Cond.instanceMethod yX4_init, Cond.code yX4_init cX4_init 1 none]
def wsX11_init_r5 : List Cond := [Cond.methodLink RX4 3 objectInit]
def wsX11_init : List Cond := .code yX11_init cX11_init 1 none :: ((wsX11_init_r1 ++ (wsX11_init_r2 ++ (wsX11_init_r3 ++ (wsX11_init_r4 ++ wsX11_init_r5)))) ++ wsX50 ++ wsX110 ++ wsX90 ++ wsX30 ++ wsX70 ++ wsX10 ++ wsX40 ++ wsX60 ++ wsX20 ++ wsX00 ++ wsX80 ++ wsX100)
def wsX11_letter : List Cond := .code yX11_letter cX11_letter 2 (some .int) :: ([.fieldLink RX11 10 "SpeltByFriends" "page" "LSpeltByFriends$Page;", .fieldLink RX11 55 "SpeltByFriends$Page" "length" "I", .methodLink RX11 51 yX5_add, .instanceMethod yX5_add, .selects RX5 yX5_add yX5_add, .initialized RX5, .code yX5_add cX5_add 2 (some .boolean), .fieldLink RX5 15 "SpeltByFriends$Page" "length" "I", .fieldLink RX5 9 "SpeltByFriends$Page" "letters" "[I", .static yX11_put, .initialized RX11, .code yX11_put cX11_put 3 none] ++ wsX110 ++ wsX50)
def wsX11_blank : List Cond := .code yX11_blank cX11_blank 2 (some .int) :: ([.fieldLink RX11 10 "SpeltByFriends" "page" "LSpeltByFriends$Page;", .fieldLink RX11 55 "SpeltByFriends$Page" "length" "I"] ++ wsX110 ++ wsX50)
def wsX11_fault_r1 : List Cond := [Cond.fieldLink RX11 10 "SpeltByFriends" "page" "LSpeltByFriends$Page;", Cond.methodLink RX11 59 yX5_firstFault, Cond.instanceMethod yX5_firstFault, Cond.selects RX5 yX5_firstFault yX5_firstFault, Cond.initialized RX5, Cond.code yX5_firstFault cX5_firstFault 2 (some .int), Cond.fieldLink RX5 15 "SpeltByFriends$Page" "length" "I", Cond.methodLink RX5 43 yX5_fits, Cond.instanceMethod yX5_fits, Cond.selects RX5 yX5_fits yX5_fits, Cond.code yX5_fits cX5_fits 2 (some .boolean), Cond.fieldLink RX5 9 "SpeltByFriends$Page" "letters" "[I", Cond.methodLink RX5 50 yX5_kindAt, Cond.instanceMethod yX5_kindAt, Cond.selects RX5 yX5_kindAt yX5_kindAt, Cond.code yX5_kindAt cX5_kindAt 2 (some .int), Cond.static yX11_at, Cond.initialized RX11, Cond.code yX11_at cX11_at 2 (some .int), Cond.methodLink RX5 37 yJ0_indexOf_0f7a4, Cond.instanceMethod yJ0_indexOf_0f7a4, Cond.selects RJ0 yJ0_indexOf_0f7a4 yJ0_indexOf_0f7a4, Cond.initialized RJ0, Cond.code yJ0_indexOf_0f7a4 cJ0_indexOf_0f7a4 2 (some .int)]
def wsX11_fault_r2 : List Cond := [Cond.methodLink RJ0 633 yJ0_indexOf_7cf53, Cond.instanceMethod yJ0_indexOf_7cf53, Cond.selects RJ0 yJ0_indexOf_7cf53 yJ0_indexOf_7cf53, Cond.code yJ0_indexOf_7cf53 cJ0_indexOf_7cf53 3 (some .int), Cond.fieldLink RJ0 9 "java/lang/String" "value" "[B", Cond.methodLink RJ0 492 yJ0_isLatin1_aae02, Cond.instanceMethod yJ0_isLatin1_aae02, Cond.selects RJ0 yJ0_isLatin1_aae02 yJ0_isLatin1_aae02, Cond.code yJ0_isLatin1_aae02 cJ0_isLatin1_aae02 1 (some .boolean), Cond.fieldLink RJ0 38 "java/lang/String" "COMPACT_STRINGS" "Z", Cond.fieldLink RJ0 15 "java/lang/String" "coder" "B", Cond.methodLink RJ0 505 yJ0_length_8abf5, Cond.instanceMethod yJ0_length_8abf5, Cond.selects RJ0 yJ0_length_8abf5 yJ0_length_8abf5, Cond.code yJ0_length_8abf5 cJ0_length_8abf5 1 (some .int), Cond.methodLink RJ0 335 yJ0_coder_7d493, Cond.instanceMethod yJ0_coder_7d493, Cond.selects RJ0 yJ0_coder_7d493 yJ0_coder_7d493, Cond.code yJ0_coder_7d493 cJ0_coder_7d493 1 (some .byte), Cond.methodLink RJ0 637 yJ1_indexOf_4cfef, Cond.static yJ1_indexOf_4cfef, Cond.initialized RJ1, Cond.code yJ1_indexOf_4cfef cJ1_indexOf_4cfef 4 (some .int), Cond.methodLink RJ1 92 Lib.Math.max.name]
def wsX11_fault_r3 : List Cond := [Cond.static Lib.Math.max.name, Cond.initialized "java/lang/Math", Cond.code Lib.Math.max.name Lib.Math.max.code 2 (some .int), Cond.methodLink RJ1 38 Lib.Math.min.name, Cond.static Lib.Math.min.name, Cond.code Lib.Math.min.name Lib.Math.min.code 2 (some .int), Cond.methodLink RJ1 88 yJ1_canEncode_9a6ad, Cond.static yJ1_canEncode_9a6ad, Cond.code yJ1_canEncode_9a6ad cJ1_canEncode_9a6ad 1 (some .boolean), Cond.methodLink RJ1 95 yJ1_indexOfChar_4cfef, Cond.static yJ1_indexOfChar_4cfef, Cond.code yJ1_indexOfChar_4cfef cJ1_indexOfChar_4cfef 6 (some .int), Cond.methodLink RJ0 640 yJ2_indexOf_4cfef, Cond.static yJ2_indexOf_4cfef, Cond.initialized RJ2, Cond.code yJ2_indexOf_4cfef cJ2_indexOf_4cfef 4 (some .int), Cond.methodLink RJ2 224 Lib.Math.max.name, Cond.methodLink RJ2 183 Lib.Math.min.name, Cond.constant RJ2 227 (65536), Cond.methodLink RJ2 228 yJ2_indexOfChar_4cfef, Cond.static yJ2_indexOfChar_4cfef, Cond.code yJ2_indexOfChar_4cfef cJ2_indexOfChar_4cfef 4 (some .int), Cond.methodLink RJ2 96 yJ2_checkBoundsBeginEnd_d044e, Cond.static yJ2_checkBoundsBeginEnd_d044e]
def wsX11_fault_r4 : List Cond := [Cond.code yJ2_checkBoundsBeginEnd_d044e cJ2_checkBoundsBeginEnd_d044e 3 none, Cond.methodLink RJ2 48 yJ2_length_9d52b, Cond.static yJ2_length_9d52b, Cond.code yJ2_length_9d52b cJ2_length_9d52b 1 (some .int), Cond.methodLink RJ2 241 yJ0_checkBoundsBeginEnd_23922, Cond.static yJ0_checkBoundsBeginEnd_23922, Cond.code yJ0_checkBoundsBeginEnd_23922 cJ0_checkBoundsBeginEnd_23922 3 none, Cond.fieldLink RJ0 1053 "jdk/internal/util/Preconditions" "SIOOBE_FORMATTER" "Ljava/util/function/BiFunction;", Cond.methodLink RJ0 1062 yJ3_checkFromToIndex_8c36e, Cond.static yJ3_checkFromToIndex_8c36e, Cond.initialized RJ3, Cond.code yJ3_checkFromToIndex_8c36e cJ3_checkFromToIndex_8c36e 4 (some .int), Cond.methodLink RJ2 244 yJ2_indexOfCharUnsafe_4cfef, Cond.static yJ2_indexOfCharUnsafe_4cfef, Cond.code yJ2_indexOfCharUnsafe_4cfef cJ2_indexOfCharUnsafe_4cfef 5 (some .int), Cond.methodLink RJ2 71 yJ2_getChar_3b067, Cond.static yJ2_getChar_3b067, Cond.code yJ2_getChar_3b067 cJ2_getChar_3b067 2 (some .char), Cond.fieldLink RJ2 44 "java/lang/StringUTF16" "$assertionsDisabled" "Z", Cond.fieldLink RJ2 59 "java/lang/StringUTF16" "HI_BYTE_SHIFT" "I", Cond.fieldLink RJ2 63 "java/lang/StringUTF16" "LO_BYTE_SHIFT" "I", Cond.methodLink RJ2 232 yJ2_indexOfSupplementary_4cfef, Cond.static yJ2_indexOfSupplementary_4cfef, Cond.code yJ2_indexOfSupplementary_4cfef cJ2_indexOfSupplementary_4cfef 7 (some .int)]
def wsX11_fault_r5 : List Cond := [Cond.methodLink RJ2 164 yJ11_isValidCodePoint_9a6ad, Cond.static yJ11_isValidCodePoint_9a6ad, Cond.initialized RJ11, Cond.code yJ11_isValidCodePoint_9a6ad cJ11_isValidCodePoint_9a6ad 2 (some .boolean), Cond.methodLink RJ2 157 yJ11_highSurrogate_5068e, Cond.static yJ11_highSurrogate_5068e, Cond.code yJ11_highSurrogate_5068e cJ11_highSurrogate_5068e 1 (some .char), Cond.constant RJ11 110 (55232), Cond.methodLink RJ2 161 yJ11_lowSurrogate_5068e, Cond.static yJ11_lowSurrogate_5068e, Cond.code yJ11_lowSurrogate_5068e cJ11_lowSurrogate_5068e 1 (some .char), Cond.constant RJ11 76 (56320), Cond.methodLink RX5 53 yX5_digitAt, Cond.instanceMethod yX5_digitAt, Cond.selects RX5 yX5_digitAt yX5_digitAt, Cond.code yX5_digitAt cX5_digitAt 2 (some .int), Cond.methodLink RX5 23 yX5_isWhole, Cond.instanceMethod yX5_isWhole, Cond.selects RX5 yX5_isWhole yX5_isWhole, Cond.code yX5_isWhole cX5_isWhole 1 (some .boolean), Cond.methodLink RX5 47 yX5_firstNobody, Cond.instanceMethod yX5_firstNobody, Cond.selects RX5 yX5_firstNobody yX5_firstNobody, Cond.code yX5_firstNobody cX5_firstNobody 4 (some .int)]
def wsX11_fault_r6 : List Cond := [Cond.methodLink RX5 56 yX5_people, Cond.instanceMethod yX5_people, Cond.selects RX5 yX5_people yX5_people, Cond.code yX5_people cX5_people 1 (some .int)]
def wsX11_fault : List Cond := .code yX11_fault cX11_fault 1 (some .int) :: ((wsX11_fault_r1 ++ (wsX11_fault_r2 ++ (wsX11_fault_r3 ++ (wsX11_fault_r4 ++ (wsX11_fault_r5 ++ wsX11_fault_r6))))) ++ wsX110 ++ wsX50)
def wsX11_town_r1 : List Cond := [Cond.fieldLink RX11 10 "SpeltByFriends" "page" "LSpeltByFriends$Page;", Cond.fieldLink RX11 19 "SpeltByFriends" "here" "LSpeltByFriends$Town;", Cond.fieldLink RX11 55 "SpeltByFriends$Page" "length" "I", Cond.fieldLink RX11 71 "SpeltByFriends" "townsRead" "I", Cond.fieldLink RX11 74 "SpeltByFriends$Town" "size" "I", Cond.methodLink RX11 63 yX5_isTown, Cond.instanceMethod yX5_isTown, Cond.selects RX5 yX5_isTown yX5_isTown, Cond.initialized RX5, Cond.code yX5_isTown cX5_isTown 1 (some .boolean), Cond.fieldLink RX5 15 "SpeltByFriends$Page" "length" "I", Cond.methodLink RX5 23 yX5_isWhole, Cond.instanceMethod yX5_isWhole, Cond.selects RX5 yX5_isWhole yX5_isWhole, Cond.code yX5_isWhole cX5_isWhole 1 (some .boolean), Cond.methodLink RX5 27 yX5_firstFault, Cond.instanceMethod yX5_firstFault, Cond.selects RX5 yX5_firstFault yX5_firstFault, Cond.code yX5_firstFault cX5_firstFault 2 (some .int), Cond.methodLink RX5 43 yX5_fits, Cond.instanceMethod yX5_fits, Cond.selects RX5 yX5_fits yX5_fits, Cond.code yX5_fits cX5_fits 2 (some .boolean), Cond.fieldLink RX5 9 "SpeltByFriends$Page" "letters" "[I"]
def wsX11_town_r2 : List Cond := [Cond.methodLink RX5 50 yX5_kindAt, Cond.instanceMethod yX5_kindAt, Cond.selects RX5 yX5_kindAt yX5_kindAt, Cond.code yX5_kindAt cX5_kindAt 2 (some .int), Cond.static yX11_at, Cond.initialized RX11, Cond.code yX11_at cX11_at 2 (some .int), Cond.methodLink RX5 37 yJ0_indexOf_0f7a4, Cond.instanceMethod yJ0_indexOf_0f7a4, Cond.selects RJ0 yJ0_indexOf_0f7a4 yJ0_indexOf_0f7a4, Cond.initialized RJ0, Cond.code yJ0_indexOf_0f7a4 cJ0_indexOf_0f7a4 2 (some .int), Cond.methodLink RJ0 633 yJ0_indexOf_7cf53, Cond.instanceMethod yJ0_indexOf_7cf53, Cond.selects RJ0 yJ0_indexOf_7cf53 yJ0_indexOf_7cf53, Cond.code yJ0_indexOf_7cf53 cJ0_indexOf_7cf53 3 (some .int), Cond.fieldLink RJ0 9 "java/lang/String" "value" "[B", Cond.methodLink RJ0 492 yJ0_isLatin1_aae02, Cond.instanceMethod yJ0_isLatin1_aae02, Cond.selects RJ0 yJ0_isLatin1_aae02 yJ0_isLatin1_aae02, Cond.code yJ0_isLatin1_aae02 cJ0_isLatin1_aae02 1 (some .boolean), Cond.fieldLink RJ0 38 "java/lang/String" "COMPACT_STRINGS" "Z", Cond.fieldLink RJ0 15 "java/lang/String" "coder" "B", Cond.methodLink RJ0 505 yJ0_length_8abf5]
def wsX11_town_r3 : List Cond := [Cond.instanceMethod yJ0_length_8abf5, Cond.selects RJ0 yJ0_length_8abf5 yJ0_length_8abf5, Cond.code yJ0_length_8abf5 cJ0_length_8abf5 1 (some .int), Cond.methodLink RJ0 335 yJ0_coder_7d493, Cond.instanceMethod yJ0_coder_7d493, Cond.selects RJ0 yJ0_coder_7d493 yJ0_coder_7d493, Cond.code yJ0_coder_7d493 cJ0_coder_7d493 1 (some .byte), Cond.methodLink RJ0 637 yJ1_indexOf_4cfef, Cond.static yJ1_indexOf_4cfef, Cond.initialized RJ1, Cond.code yJ1_indexOf_4cfef cJ1_indexOf_4cfef 4 (some .int), Cond.methodLink RJ1 92 Lib.Math.max.name, Cond.static Lib.Math.max.name, Cond.initialized "java/lang/Math", Cond.code Lib.Math.max.name Lib.Math.max.code 2 (some .int), Cond.methodLink RJ1 38 Lib.Math.min.name, Cond.static Lib.Math.min.name, Cond.code Lib.Math.min.name Lib.Math.min.code 2 (some .int), Cond.methodLink RJ1 88 yJ1_canEncode_9a6ad, Cond.static yJ1_canEncode_9a6ad, Cond.code yJ1_canEncode_9a6ad cJ1_canEncode_9a6ad 1 (some .boolean), Cond.methodLink RJ1 95 yJ1_indexOfChar_4cfef, Cond.static yJ1_indexOfChar_4cfef, Cond.code yJ1_indexOfChar_4cfef cJ1_indexOfChar_4cfef 6 (some .int)]
def wsX11_town_r4 : List Cond := [Cond.methodLink RJ0 640 yJ2_indexOf_4cfef, Cond.static yJ2_indexOf_4cfef, Cond.initialized RJ2, Cond.code yJ2_indexOf_4cfef cJ2_indexOf_4cfef 4 (some .int), Cond.methodLink RJ2 224 Lib.Math.max.name, Cond.methodLink RJ2 183 Lib.Math.min.name, Cond.constant RJ2 227 (65536), Cond.methodLink RJ2 228 yJ2_indexOfChar_4cfef, Cond.static yJ2_indexOfChar_4cfef, Cond.code yJ2_indexOfChar_4cfef cJ2_indexOfChar_4cfef 4 (some .int), Cond.methodLink RJ2 96 yJ2_checkBoundsBeginEnd_d044e, Cond.static yJ2_checkBoundsBeginEnd_d044e, Cond.code yJ2_checkBoundsBeginEnd_d044e cJ2_checkBoundsBeginEnd_d044e 3 none, Cond.methodLink RJ2 48 yJ2_length_9d52b, Cond.static yJ2_length_9d52b, Cond.code yJ2_length_9d52b cJ2_length_9d52b 1 (some .int), Cond.methodLink RJ2 241 yJ0_checkBoundsBeginEnd_23922, Cond.static yJ0_checkBoundsBeginEnd_23922, Cond.code yJ0_checkBoundsBeginEnd_23922 cJ0_checkBoundsBeginEnd_23922 3 none, Cond.fieldLink RJ0 1053 "jdk/internal/util/Preconditions" "SIOOBE_FORMATTER" "Ljava/util/function/BiFunction;", Cond.methodLink RJ0 1062 yJ3_checkFromToIndex_8c36e, Cond.static yJ3_checkFromToIndex_8c36e, Cond.initialized RJ3, Cond.code yJ3_checkFromToIndex_8c36e cJ3_checkFromToIndex_8c36e 4 (some .int)]
def wsX11_town_r5 : List Cond := [Cond.methodLink RJ2 244 yJ2_indexOfCharUnsafe_4cfef, Cond.static yJ2_indexOfCharUnsafe_4cfef, Cond.code yJ2_indexOfCharUnsafe_4cfef cJ2_indexOfCharUnsafe_4cfef 5 (some .int), Cond.methodLink RJ2 71 yJ2_getChar_3b067, Cond.static yJ2_getChar_3b067, Cond.code yJ2_getChar_3b067 cJ2_getChar_3b067 2 (some .char), Cond.fieldLink RJ2 44 "java/lang/StringUTF16" "$assertionsDisabled" "Z", Cond.fieldLink RJ2 59 "java/lang/StringUTF16" "HI_BYTE_SHIFT" "I", Cond.fieldLink RJ2 63 "java/lang/StringUTF16" "LO_BYTE_SHIFT" "I", Cond.methodLink RJ2 232 yJ2_indexOfSupplementary_4cfef, Cond.static yJ2_indexOfSupplementary_4cfef, Cond.code yJ2_indexOfSupplementary_4cfef cJ2_indexOfSupplementary_4cfef 7 (some .int), Cond.methodLink RJ2 164 yJ11_isValidCodePoint_9a6ad, Cond.static yJ11_isValidCodePoint_9a6ad, Cond.initialized RJ11, Cond.code yJ11_isValidCodePoint_9a6ad cJ11_isValidCodePoint_9a6ad 2 (some .boolean), Cond.methodLink RJ2 157 yJ11_highSurrogate_5068e, Cond.static yJ11_highSurrogate_5068e, Cond.code yJ11_highSurrogate_5068e cJ11_highSurrogate_5068e 1 (some .char), Cond.constant RJ11 110 (55232), Cond.methodLink RJ2 161 yJ11_lowSurrogate_5068e, Cond.static yJ11_lowSurrogate_5068e, Cond.code yJ11_lowSurrogate_5068e cJ11_lowSurrogate_5068e 1 (some .char), Cond.constant RJ11 76 (56320)]
def wsX11_town_r6 : List Cond := [Cond.methodLink RX5 53 yX5_digitAt, Cond.instanceMethod yX5_digitAt, Cond.selects RX5 yX5_digitAt yX5_digitAt, Cond.code yX5_digitAt cX5_digitAt 2 (some .int), Cond.methodLink RX5 47 yX5_firstNobody, Cond.instanceMethod yX5_firstNobody, Cond.selects RX5 yX5_firstNobody yX5_firstNobody, Cond.code yX5_firstNobody cX5_firstNobody 4 (some .int), Cond.methodLink RX5 56 yX5_people, Cond.instanceMethod yX5_people, Cond.selects RX5 yX5_people yX5_people, Cond.code yX5_people cX5_people 1 (some .int), Cond.methodLink RX11 67 yX9_settle, Cond.instanceMethod yX9_settle, Cond.selects RX9 yX9_settle yX9_settle, Cond.initialized RX9, Cond.code yX9_settle cX9_settle 4 none, Cond.fieldLink RX9 12 "SpeltByFriends$Town" "ledger" "LSpeltByFriends$Ledger;", Cond.methodLink RX9 50 Lib.Math.min.name, Cond.fieldLink RX9 56 "SpeltByFriends$Town" "size" "I", Cond.fieldLink RX9 39 "SpeltByFriends$Town" "people" "[LSpeltByFriends$Person;", Cond.fieldLink RX9 35 "SpeltByFriends$Town" "kinds" "[LSpeltByFriends$Person;", Cond.fieldLink RX9 64 "SpeltByFriends$Ledger" "firstHolder" "[I", Cond.fieldLink RX9 75 "SpeltByFriends$Ledger" "lastHolder" "[I"]
def wsX11_town_r7 : List Cond := [Cond.methodLink RX9 42 yX3_clear, Cond.instanceMethod yX3_clear, Cond.selects RX3 yX3_clear yX3_clear, Cond.initialized RX3, Cond.code yX3_clear cX3_clear 2 none, Cond.fieldLink RX3 9 "SpeltByFriends$Ledger" "firstHolder" "[I", Cond.fieldLink RX3 15 "SpeltByFriends$Ledger" "lastHolder" "[I", Cond.fieldLink RX3 18 "SpeltByFriends$Ledger" "foes" "[I", Cond.fieldLink RX3 34 "SpeltByFriends$Ledger" "rooms" "I", Cond.fieldLink RX3 38 "SpeltByFriends$Ledger" "heard" "I", Cond.fieldLink RX3 41 "SpeltByFriends$Ledger" "went" "I", Cond.fieldLink RX3 44 "SpeltByFriends$Ledger" "sold" "I", Cond.static yX11_put, Cond.code yX11_put cX11_put 3 none, Cond.methodLink RX9 45 yX5_people, Cond.methodLink RX9 60 yX5_kindAt, Cond.methodLink RX9 68 yX5_digitAt]
def wsX11_town : List Cond := .code yX11_town cX11_town 1 (some .int) :: ((wsX11_town_r1 ++ (wsX11_town_r2 ++ (wsX11_town_r3 ++ (wsX11_town_r4 ++ (wsX11_town_r5 ++ (wsX11_town_r6 ++ wsX11_town_r7)))))) ++ wsX110 ++ wsX50 ++ wsX90 ++ wsX30)
def wsX11_tellAbout_r1 : List Cond := [Cond.fieldLink RX11 19 "SpeltByFriends" "here" "LSpeltByFriends$Town;", Cond.fieldLink RX11 92 "SpeltByFriends$Town" "ledger" "LSpeltByFriends$Ledger;", Cond.fieldLink RX11 108 "SpeltByFriends$Ledger" "firstHolder" "[I", Cond.fieldLink RX11 112 "SpeltByFriends$Ledger" "lastHolder" "[I", Cond.fieldLink RX11 95 "SpeltByFriends$Ledger" "rooms" "I", Cond.fieldLink RX11 126 "SpeltByFriends$Ledger" "foes" "[I", Cond.methodLink RX11 219 yX9_kindOf, Cond.instanceMethod yX9_kindOf, Cond.selects RX9 yX9_kindOf yX9_kindOf, Cond.initialized RX9, Cond.code yX9_kindOf cX9_kindOf 3 (some .int), Cond.fieldLink RX9 89 "SpeltByFriends$Person" "kind" "I", Cond.methodLink RX9 85 yX9_personAt, Cond.instanceMethod yX9_personAt, Cond.selects RX9 yX9_personAt yX9_personAt, Cond.code yX9_personAt cX9_personAt 2 (some (.object "SpeltByFriends$Person")), Cond.fieldLink RX9 39 "SpeltByFriends$Town" "people" "[LSpeltByFriends$Person;", Cond.methodLink RX9 82 yX9_has, Cond.instanceMethod yX9_has, Cond.selects RX9 yX9_has yX9_has, Cond.code yX9_has cX9_has 2 (some .boolean), Cond.fieldLink RX9 56 "SpeltByFriends$Town" "size" "I", Cond.methodLink RX11 115 yX11_at, Cond.static yX11_at]
def wsX11_tellAbout_r2 : List Cond := [Cond.initialized RX11, Cond.code yX11_at cX11_at 2 (some .int), Cond.methodLink RX11 98 yX11_roomIn, Cond.static yX11_roomIn, Cond.code yX11_roomIn cX11_roomIn 2 (some .int), Cond.methodLink RX11 239 yX11_shiftOf, Cond.static yX11_shiftOf, Cond.code yX11_shiftOf cX11_shiftOf 1 (some .int), Cond.methodLink RX11 222 yX9_companyIn, Cond.instanceMethod yX9_companyIn, Cond.selects RX9 yX9_companyIn yX9_companyIn, Cond.code yX9_companyIn cX9_companyIn 6 (some .int), Cond.methodLink RX11 137 yX9_canWrite, Cond.instanceMethod yX9_canWrite, Cond.selects RX9 yX9_canWrite yX9_canWrite, Cond.code yX9_canWrite cX9_canWrite 3 (some .boolean), Cond.fieldLink RX9 12 "SpeltByFriends$Town" "ledger" "LSpeltByFriends$Ledger;", Cond.fieldLink RX9 64 "SpeltByFriends$Ledger" "firstHolder" "[I", Cond.fieldLink RX9 75 "SpeltByFriends$Ledger" "lastHolder" "[I", Cond.methodLink RX9 99 yX9_couldWrite, Cond.instanceMethod yX9_couldWrite, Cond.selects RX9 yX9_couldWrite yX9_couldWrite, Cond.code yX9_couldWrite cX9_couldWrite 11 (some .boolean), Cond.fieldLink RX9 103 "SpeltByFriends$Ledger" "foes" "[I"]
def wsX11_tellAbout_r3 : List Cond := [Cond.methodLink RX9 106 ⟨"SpeltByFriends$Person", "isSpelt", "(ZZII)Z"⟩, Cond.sameMethod "SpeltByFriends$Person" "SpeltByFriends$Person" "isSpelt" "(ZZII)Z", Cond.instanceMethod ⟨"SpeltByFriends$Person", "isSpelt", "(ZZII)Z"⟩, Cond.selects RX0 ⟨"SpeltByFriends$Person", "isSpelt", "(ZZII)Z"⟩ yX0_isSpelt, Cond.instanceMethod yX0_isSpelt, Cond.initialized RX0, Cond.code yX0_isSpelt cX0_isSpelt 5 (some .boolean), Cond.code yX6_isSpelt cX6_isSpelt 5 (some .boolean), Cond.selects RX2 ⟨"SpeltByFriends$Person", "isSpelt", "(ZZII)Z"⟩ yX2_isSpelt, Cond.instanceMethod yX2_isSpelt, Cond.initialized RX2, Cond.code yX2_isSpelt cX2_isSpelt 5 (some .boolean), Cond.methodLink RX9 106 yX6_isSpelt, Cond.instanceMethod yX6_isSpelt, Cond.selects RX6 yX6_isSpelt yX6_isSpelt, Cond.initialized RX6, Cond.selects RX8 ⟨"SpeltByFriends$Person", "isSpelt", "(ZZII)Z"⟩ yX8_isSpelt, Cond.instanceMethod yX8_isSpelt, Cond.initialized RX8, Cond.code yX8_isSpelt cX8_isSpelt 5 (some .boolean), Cond.selects RX10 ⟨"SpeltByFriends$Person", "isSpelt", "(ZZII)Z"⟩ yX10_isSpelt, Cond.instanceMethod yX10_isSpelt, Cond.initialized RX10, Cond.code yX10_isSpelt cX10_isSpelt 5 (some .boolean)]
def wsX11_tellAbout_r4 : List Cond := [Cond.methodLink RX11 225 yX9_lettersOfOthers, Cond.instanceMethod yX9_lettersOfOthers, Cond.selects RX9 yX9_lettersOfOthers yX9_lettersOfOthers, Cond.code yX9_lettersOfOthers cX9_lettersOfOthers 4 (some .int), Cond.methodLink RX11 228 yX9_wants, Cond.instanceMethod yX9_wants, Cond.selects RX9 yX9_wants yX9_wants, Cond.code yX9_wants cX9_wants 4 (some .int), Cond.methodLink RX9 113 yX9_canWrite]
def wsX11_tellAbout : List Cond := .code yX11_tellAbout cX11_tellAbout 4 (some .int) :: ((wsX11_tellAbout_r1 ++ (wsX11_tellAbout_r2 ++ (wsX11_tellAbout_r3 ++ wsX11_tellAbout_r4))) ++ wsX110 ++ wsX90 ++ wsX30 ++ wsX00 ++ wsX20 ++ wsX60 ++ wsX80 ++ wsX100)
def wsX11_about_r1 : List Cond := [Cond.fieldLink RX11 19 "SpeltByFriends" "here" "LSpeltByFriends$Town;", Cond.methodLink RX11 77 yX9_has, Cond.instanceMethod yX9_has, Cond.selects RX9 yX9_has yX9_has, Cond.initialized RX9, Cond.code yX9_has cX9_has 2 (some .boolean), Cond.fieldLink RX9 56 "SpeltByFriends$Town" "size" "I", Cond.methodLink RX11 80 yX11_tellAbout, Cond.instanceMethod yX11_tellAbout, Cond.selects RX11 yX11_tellAbout yX11_tellAbout, Cond.initialized RX11, Cond.code yX11_tellAbout cX11_tellAbout 4 (some .int), Cond.fieldLink RX11 92 "SpeltByFriends$Town" "ledger" "LSpeltByFriends$Ledger;", Cond.fieldLink RX11 108 "SpeltByFriends$Ledger" "firstHolder" "[I", Cond.fieldLink RX11 112 "SpeltByFriends$Ledger" "lastHolder" "[I", Cond.fieldLink RX11 95 "SpeltByFriends$Ledger" "rooms" "I", Cond.fieldLink RX11 126 "SpeltByFriends$Ledger" "foes" "[I", Cond.methodLink RX11 219 yX9_kindOf, Cond.instanceMethod yX9_kindOf, Cond.selects RX9 yX9_kindOf yX9_kindOf, Cond.code yX9_kindOf cX9_kindOf 3 (some .int), Cond.fieldLink RX9 89 "SpeltByFriends$Person" "kind" "I", Cond.methodLink RX9 85 yX9_personAt, Cond.instanceMethod yX9_personAt]
def wsX11_about_r2 : List Cond := [Cond.selects RX9 yX9_personAt yX9_personAt, Cond.code yX9_personAt cX9_personAt 2 (some (.object "SpeltByFriends$Person")), Cond.fieldLink RX9 39 "SpeltByFriends$Town" "people" "[LSpeltByFriends$Person;", Cond.methodLink RX9 82 yX9_has, Cond.methodLink RX11 115 yX11_at, Cond.static yX11_at, Cond.code yX11_at cX11_at 2 (some .int), Cond.methodLink RX11 98 yX11_roomIn, Cond.static yX11_roomIn, Cond.code yX11_roomIn cX11_roomIn 2 (some .int), Cond.methodLink RX11 239 yX11_shiftOf, Cond.static yX11_shiftOf, Cond.code yX11_shiftOf cX11_shiftOf 1 (some .int), Cond.methodLink RX11 222 yX9_companyIn, Cond.instanceMethod yX9_companyIn, Cond.selects RX9 yX9_companyIn yX9_companyIn, Cond.code yX9_companyIn cX9_companyIn 6 (some .int), Cond.methodLink RX11 137 yX9_canWrite, Cond.instanceMethod yX9_canWrite, Cond.selects RX9 yX9_canWrite yX9_canWrite, Cond.code yX9_canWrite cX9_canWrite 3 (some .boolean), Cond.fieldLink RX9 12 "SpeltByFriends$Town" "ledger" "LSpeltByFriends$Ledger;", Cond.fieldLink RX9 64 "SpeltByFriends$Ledger" "firstHolder" "[I", Cond.fieldLink RX9 75 "SpeltByFriends$Ledger" "lastHolder" "[I"]
def wsX11_about_r3 : List Cond := [Cond.methodLink RX9 99 yX9_couldWrite, Cond.instanceMethod yX9_couldWrite, Cond.selects RX9 yX9_couldWrite yX9_couldWrite, Cond.code yX9_couldWrite cX9_couldWrite 11 (some .boolean), Cond.fieldLink RX9 103 "SpeltByFriends$Ledger" "foes" "[I", Cond.methodLink RX9 106 ⟨"SpeltByFriends$Person", "isSpelt", "(ZZII)Z"⟩, Cond.sameMethod "SpeltByFriends$Person" "SpeltByFriends$Person" "isSpelt" "(ZZII)Z", Cond.instanceMethod ⟨"SpeltByFriends$Person", "isSpelt", "(ZZII)Z"⟩, Cond.selects RX0 ⟨"SpeltByFriends$Person", "isSpelt", "(ZZII)Z"⟩ yX0_isSpelt, Cond.instanceMethod yX0_isSpelt, Cond.initialized RX0, Cond.code yX0_isSpelt cX0_isSpelt 5 (some .boolean), Cond.code yX6_isSpelt cX6_isSpelt 5 (some .boolean), Cond.selects RX2 ⟨"SpeltByFriends$Person", "isSpelt", "(ZZII)Z"⟩ yX2_isSpelt, Cond.instanceMethod yX2_isSpelt, Cond.initialized RX2, Cond.code yX2_isSpelt cX2_isSpelt 5 (some .boolean), Cond.methodLink RX9 106 yX6_isSpelt, Cond.instanceMethod yX6_isSpelt, Cond.selects RX6 yX6_isSpelt yX6_isSpelt, Cond.initialized RX6, Cond.selects RX8 ⟨"SpeltByFriends$Person", "isSpelt", "(ZZII)Z"⟩ yX8_isSpelt, Cond.instanceMethod yX8_isSpelt, Cond.initialized RX8]
def wsX11_about_r4 : List Cond := [Cond.code yX8_isSpelt cX8_isSpelt 5 (some .boolean), Cond.selects RX10 ⟨"SpeltByFriends$Person", "isSpelt", "(ZZII)Z"⟩ yX10_isSpelt, Cond.instanceMethod yX10_isSpelt, Cond.initialized RX10, Cond.code yX10_isSpelt cX10_isSpelt 5 (some .boolean), Cond.methodLink RX11 225 yX9_lettersOfOthers, Cond.instanceMethod yX9_lettersOfOthers, Cond.selects RX9 yX9_lettersOfOthers yX9_lettersOfOthers, Cond.code yX9_lettersOfOthers cX9_lettersOfOthers 4 (some .int), Cond.methodLink RX11 228 yX9_wants, Cond.instanceMethod yX9_wants, Cond.selects RX9 yX9_wants yX9_wants, Cond.code yX9_wants cX9_wants 4 (some .int), Cond.methodLink RX9 113 yX9_canWrite]
def wsX11_about : List Cond := .code yX11_about cX11_about 3 (some .int) :: ((wsX11_about_r1 ++ (wsX11_about_r2 ++ (wsX11_about_r3 ++ wsX11_about_r4))) ++ wsX110 ++ wsX90 ++ wsX30 ++ wsX00 ++ wsX20 ++ wsX60 ++ wsX80 ++ wsX100)
def wsX11_isOfKind : List Cond := .code yX11_isOfKind cX11_isOfKind 2 (some .boolean) :: ([.classLink RX11 231 "SpeltByFriends$Hermit", .classLink RX11 233 "SpeltByFriends$Forger", .classLink RX11 235 "SpeltByFriends$Proud", .classLink RX11 237 "SpeltByFriends$Twin"])
def wsX11_as : List Cond := .code yX11_as cX11_as 3 (some .int) :: ([.fieldLink RX11 19 "SpeltByFriends" "here" "LSpeltByFriends$Town;", .methodLink RX11 77 yX9_has, .instanceMethod yX9_has, .selects RX9 yX9_has yX9_has, .initialized RX9, .code yX9_has cX9_has 2 (some .boolean), .fieldLink RX9 56 "SpeltByFriends$Town" "size" "I", .methodLink RX11 84 yX9_personAt, .instanceMethod yX9_personAt, .selects RX9 yX9_personAt yX9_personAt, .code yX9_personAt cX9_personAt 2 (some (.object "SpeltByFriends$Person")), .fieldLink RX9 39 "SpeltByFriends$Town" "people" "[LSpeltByFriends$Person;", .methodLink RX9 82 yX9_has, .methodLink RX11 88 yX11_isOfKind, .static yX11_isOfKind, .initialized RX11, .code yX11_isOfKind cX11_isOfKind 2 (some .boolean), .classLink RX11 231 "SpeltByFriends$Hermit", .classLink RX11 233 "SpeltByFriends$Forger", .classLink RX11 235 "SpeltByFriends$Proud", .classLink RX11 237 "SpeltByFriends$Twin"] ++ wsX110 ++ wsX90)
def wsX11_go : List Cond := .code yX11_go cX11_go 5 (some .int) :: ([.fieldLink RX11 19 "SpeltByFriends" "here" "LSpeltByFriends$Town;", .fieldLink RX11 92 "SpeltByFriends$Town" "ledger" "LSpeltByFriends$Ledger;", .fieldLink RX11 95 "SpeltByFriends$Ledger" "rooms" "I", .fieldLink RX11 105 "SpeltByFriends$Ledger" "went" "I", .methodLink RX11 77 yX9_has, .instanceMethod yX9_has, .selects RX9 yX9_has yX9_has, .initialized RX9, .code yX9_has cX9_has 2 (some .boolean), .fieldLink RX9 56 "SpeltByFriends$Town" "size" "I", .methodLink RX11 98 yX11_roomIn, .static yX11_roomIn, .initialized RX11, .code yX11_roomIn cX11_roomIn 2 (some .int), .methodLink RX11 239 yX11_shiftOf, .static yX11_shiftOf, .code yX11_shiftOf cX11_shiftOf 1 (some .int), .methodLink RX11 101 yX11_withRoom, .static yX11_withRoom, .code yX11_withRoom cX11_withRoom 4 (some .int)] ++ wsX110 ++ wsX90 ++ wsX30)
def wsX11_sell : List Cond := .code yX11_sell cX11_sell 7 (some .int) :: ([.fieldLink RX11 19 "SpeltByFriends" "here" "LSpeltByFriends$Town;", .fieldLink RX11 92 "SpeltByFriends$Town" "ledger" "LSpeltByFriends$Ledger;", .fieldLink RX11 108 "SpeltByFriends$Ledger" "firstHolder" "[I", .fieldLink RX11 112 "SpeltByFriends$Ledger" "lastHolder" "[I", .fieldLink RX11 123 "SpeltByFriends$Ledger" "sold" "I", .methodLink RX11 77 yX9_has, .instanceMethod yX9_has, .selects RX9 yX9_has yX9_has, .initialized RX9, .code yX9_has cX9_has 2 (some .boolean), .fieldLink RX9 56 "SpeltByFriends$Town" "size" "I", .methodLink RX11 115 yX11_at, .static yX11_at, .initialized RX11, .code yX11_at cX11_at 2 (some .int), .methodLink RX11 119 yX11_put, .static yX11_put, .code yX11_put cX11_put 3 none] ++ wsX110 ++ wsX90 ++ wsX30)
def wsX11_quarrel : List Cond := .code yX11_quarrel cX11_quarrel 6 (some .int) :: ([.fieldLink RX11 19 "SpeltByFriends" "here" "LSpeltByFriends$Town;", .fieldLink RX11 92 "SpeltByFriends$Town" "ledger" "LSpeltByFriends$Ledger;", .fieldLink RX11 126 "SpeltByFriends$Ledger" "foes" "[I", .methodLink RX11 77 yX9_has, .instanceMethod yX9_has, .selects RX9 yX9_has yX9_has, .initialized RX9, .code yX9_has cX9_has 2 (some .boolean), .fieldLink RX9 56 "SpeltByFriends$Town" "size" "I", .methodLink RX11 115 yX11_at, .static yX11_at, .initialized RX11, .code yX11_at cX11_at 2 (some .int), .methodLink RX11 129 yX3_setFoe, .instanceMethod yX3_setFoe, .selects RX3 yX3_setFoe yX3_setFoe, .initialized RX3, .code yX3_setFoe cX3_setFoe 5 none, .fieldLink RX3 18 "SpeltByFriends$Ledger" "foes" "[I", .static yX11_put, .code yX11_put cX11_put 3 none] ++ wsX110 ++ wsX90 ++ wsX30)
def wsX11_written_r1 : List Cond := [Cond.fieldLink RX11 19 "SpeltByFriends" "here" "LSpeltByFriends$Town;", Cond.methodLink RX11 77 yX9_has, Cond.instanceMethod yX9_has, Cond.selects RX9 yX9_has yX9_has, Cond.initialized RX9, Cond.code yX9_has cX9_has 2 (some .boolean), Cond.fieldLink RX9 56 "SpeltByFriends$Town" "size" "I", Cond.methodLink RX11 133 yX9_isCompanyOf, Cond.instanceMethod yX9_isCompanyOf, Cond.selects RX9 yX9_isCompanyOf yX9_isCompanyOf, Cond.code yX9_isCompanyOf cX9_isCompanyOf 3 (some .boolean), Cond.methodLink RX9 78 yX9_isSetOfPeople, Cond.instanceMethod yX9_isSetOfPeople, Cond.selects RX9 yX9_isSetOfPeople yX9_isSetOfPeople, Cond.code yX9_isSetOfPeople cX9_isSetOfPeople 2 (some .boolean), Cond.methodLink RX11 137 yX9_canWrite, Cond.instanceMethod yX9_canWrite, Cond.selects RX9 yX9_canWrite yX9_canWrite, Cond.code yX9_canWrite cX9_canWrite 3 (some .boolean), Cond.fieldLink RX9 12 "SpeltByFriends$Town" "ledger" "LSpeltByFriends$Ledger;", Cond.fieldLink RX9 64 "SpeltByFriends$Ledger" "firstHolder" "[I", Cond.fieldLink RX9 75 "SpeltByFriends$Ledger" "lastHolder" "[I", Cond.static yX11_at, Cond.initialized RX11]
def wsX11_written_r2 : List Cond := [Cond.code yX11_at cX11_at 2 (some .int), Cond.methodLink RX9 99 yX9_couldWrite, Cond.instanceMethod yX9_couldWrite, Cond.selects RX9 yX9_couldWrite yX9_couldWrite, Cond.code yX9_couldWrite cX9_couldWrite 11 (some .boolean), Cond.fieldLink RX9 103 "SpeltByFriends$Ledger" "foes" "[I", Cond.methodLink RX9 85 yX9_personAt, Cond.instanceMethod yX9_personAt, Cond.selects RX9 yX9_personAt yX9_personAt, Cond.code yX9_personAt cX9_personAt 2 (some (.object "SpeltByFriends$Person")), Cond.fieldLink RX9 39 "SpeltByFriends$Town" "people" "[LSpeltByFriends$Person;", Cond.methodLink RX9 82 yX9_has, Cond.methodLink RX9 106 ⟨"SpeltByFriends$Person", "isSpelt", "(ZZII)Z"⟩, Cond.sameMethod "SpeltByFriends$Person" "SpeltByFriends$Person" "isSpelt" "(ZZII)Z", Cond.instanceMethod ⟨"SpeltByFriends$Person", "isSpelt", "(ZZII)Z"⟩, Cond.selects RX0 ⟨"SpeltByFriends$Person", "isSpelt", "(ZZII)Z"⟩ yX0_isSpelt, Cond.instanceMethod yX0_isSpelt, Cond.initialized RX0, Cond.code yX0_isSpelt cX0_isSpelt 5 (some .boolean), Cond.code yX6_isSpelt cX6_isSpelt 5 (some .boolean), Cond.selects RX2 ⟨"SpeltByFriends$Person", "isSpelt", "(ZZII)Z"⟩ yX2_isSpelt, Cond.instanceMethod yX2_isSpelt, Cond.initialized RX2, Cond.code yX2_isSpelt cX2_isSpelt 5 (some .boolean)]
def wsX11_written_r3 : List Cond := [Cond.methodLink RX9 106 yX6_isSpelt, Cond.instanceMethod yX6_isSpelt, Cond.selects RX6 yX6_isSpelt yX6_isSpelt, Cond.initialized RX6, Cond.selects RX8 ⟨"SpeltByFriends$Person", "isSpelt", "(ZZII)Z"⟩ yX8_isSpelt, Cond.instanceMethod yX8_isSpelt, Cond.initialized RX8, Cond.code yX8_isSpelt cX8_isSpelt 5 (some .boolean), Cond.selects RX10 ⟨"SpeltByFriends$Person", "isSpelt", "(ZZII)Z"⟩ yX10_isSpelt, Cond.instanceMethod yX10_isSpelt, Cond.initialized RX10, Cond.code yX10_isSpelt cX10_isSpelt 5 (some .boolean)]
def wsX11_written : List Cond := .code yX11_written cX11_written 3 (some .int) :: ((wsX11_written_r1 ++ (wsX11_written_r2 ++ wsX11_written_r3)) ++ wsX110 ++ wsX90 ++ wsX30)
def wsX11_moves_r1 : List Cond := [Cond.fieldLink RX11 19 "SpeltByFriends" "here" "LSpeltByFriends$Town;", Cond.fieldLink RX11 140 "SpeltByFriends" "movesDone" "I", Cond.fieldLink RX11 33 "SpeltByFriends" "plans" "LSpeltByFriends$Plans;", Cond.fieldLink RX11 147 "SpeltByFriends$Plans" "bestRooms" "I", Cond.methodLink RX11 77 yX9_has, Cond.instanceMethod yX9_has, Cond.selects RX9 yX9_has yX9_has, Cond.initialized RX9, Cond.code yX9_has cX9_has 2 (some .boolean), Cond.fieldLink RX9 56 "SpeltByFriends$Town" "size" "I", Cond.methodLink RX11 143 yX7_planMoves, Cond.instanceMethod yX7_planMoves, Cond.selects RX7 yX7_planMoves yX7_planMoves, Cond.initialized RX7, Cond.code yX7_planMoves cX7_planMoves 8 (some .int), Cond.fieldLink RX7 18 "SpeltByFriends$Town" "size" "I", Cond.fieldLink RX7 24 "SpeltByFriends$Town" "ledger" "LSpeltByFriends$Ledger;", Cond.fieldLink RX7 28 "SpeltByFriends$Ledger" "rooms" "I", Cond.fieldLink RX7 44 "SpeltByFriends$Plans" "bestRooms" "I", Cond.methodLink RX7 33 yX7_howManyDiffer, Cond.static yX7_howManyDiffer, Cond.code yX7_howManyDiffer cX7_howManyDiffer 3 (some .int), Cond.methodLink RX7 47 yJ6_bitCount_0f7a4, Cond.static yJ6_bitCount_0f7a4]
def wsX11_moves_r2 : List Cond := [Cond.initialized RJ6, Cond.code yJ6_bitCount_0f7a4 cJ6_bitCount_0f7a4 1 (some .int), Cond.constant RJ6 265 (1431655765), Cond.constant RJ6 266 (858993459), Cond.constant RJ6 267 (252645135), Cond.methodLink RX7 37 yX9_companyIn, Cond.instanceMethod yX9_companyIn, Cond.selects RX9 yX9_companyIn yX9_companyIn, Cond.code yX9_companyIn cX9_companyIn 6 (some .int), Cond.static yX11_roomIn, Cond.initialized RX11, Cond.code yX11_roomIn cX11_roomIn 2 (some .int), Cond.methodLink RX11 239 yX11_shiftOf, Cond.static yX11_shiftOf, Cond.code yX11_shiftOf cX11_shiftOf 1 (some .int), Cond.methodLink RX7 40 yX9_canWrite, Cond.instanceMethod yX9_canWrite, Cond.selects RX9 yX9_canWrite yX9_canWrite, Cond.code yX9_canWrite cX9_canWrite 3 (some .boolean), Cond.fieldLink RX9 12 "SpeltByFriends$Town" "ledger" "LSpeltByFriends$Ledger;", Cond.fieldLink RX9 64 "SpeltByFriends$Ledger" "firstHolder" "[I", Cond.fieldLink RX9 75 "SpeltByFriends$Ledger" "lastHolder" "[I", Cond.static yX11_at, Cond.code yX11_at cX11_at 2 (some .int)]
def wsX11_moves_r3 : List Cond := [Cond.methodLink RX9 99 yX9_couldWrite, Cond.instanceMethod yX9_couldWrite, Cond.selects RX9 yX9_couldWrite yX9_couldWrite, Cond.code yX9_couldWrite cX9_couldWrite 11 (some .boolean), Cond.fieldLink RX9 103 "SpeltByFriends$Ledger" "foes" "[I", Cond.methodLink RX9 85 yX9_personAt, Cond.instanceMethod yX9_personAt, Cond.selects RX9 yX9_personAt yX9_personAt, Cond.code yX9_personAt cX9_personAt 2 (some (.object "SpeltByFriends$Person")), Cond.fieldLink RX9 39 "SpeltByFriends$Town" "people" "[LSpeltByFriends$Person;", Cond.methodLink RX9 82 yX9_has, Cond.methodLink RX9 106 ⟨"SpeltByFriends$Person", "isSpelt", "(ZZII)Z"⟩, Cond.sameMethod "SpeltByFriends$Person" "SpeltByFriends$Person" "isSpelt" "(ZZII)Z", Cond.instanceMethod ⟨"SpeltByFriends$Person", "isSpelt", "(ZZII)Z"⟩, Cond.selects RX0 ⟨"SpeltByFriends$Person", "isSpelt", "(ZZII)Z"⟩ yX0_isSpelt, Cond.instanceMethod yX0_isSpelt, Cond.initialized RX0, Cond.code yX0_isSpelt cX0_isSpelt 5 (some .boolean), Cond.code yX6_isSpelt cX6_isSpelt 5 (some .boolean), Cond.selects RX2 ⟨"SpeltByFriends$Person", "isSpelt", "(ZZII)Z"⟩ yX2_isSpelt, Cond.instanceMethod yX2_isSpelt, Cond.initialized RX2, Cond.code yX2_isSpelt cX2_isSpelt 5 (some .boolean), Cond.methodLink RX9 106 yX6_isSpelt]
def wsX11_moves_r4 : List Cond := [Cond.instanceMethod yX6_isSpelt, Cond.selects RX6 yX6_isSpelt yX6_isSpelt, Cond.initialized RX6, Cond.selects RX8 ⟨"SpeltByFriends$Person", "isSpelt", "(ZZII)Z"⟩ yX8_isSpelt, Cond.instanceMethod yX8_isSpelt, Cond.initialized RX8, Cond.code yX8_isSpelt cX8_isSpelt 5 (some .boolean), Cond.selects RX10 ⟨"SpeltByFriends$Person", "isSpelt", "(ZZII)Z"⟩ yX10_isSpelt, Cond.instanceMethod yX10_isSpelt, Cond.initialized RX10, Cond.code yX10_isSpelt cX10_isSpelt 5 (some .boolean), Cond.methodLink RX11 98 yX11_roomIn]
def wsX11_moves : List Cond := .code yX11_moves cX11_moves 4 (some .int) :: ((wsX11_moves_r1 ++ (wsX11_moves_r2 ++ (wsX11_moves_r3 ++ wsX11_moves_r4))) ++ wsX110 ++ wsX70 ++ wsX90 ++ wsX30)
def wsX11_days_r1 : List Cond := [Cond.fieldLink RX11 19 "SpeltByFriends" "here" "LSpeltByFriends$Town;", Cond.fieldLink RX11 74 "SpeltByFriends$Town" "size" "I", Cond.fieldLink RX11 153 "SpeltByFriends" "daysDone" "I", Cond.fieldLink RX11 33 "SpeltByFriends" "plans" "LSpeltByFriends$Plans;", Cond.fieldLink RX11 159 "SpeltByFriends$Plans" "companies" "[I", Cond.methodLink RX11 150 yX9_isSetOfPeople, Cond.instanceMethod yX9_isSetOfPeople, Cond.selects RX9 yX9_isSetOfPeople yX9_isSetOfPeople, Cond.initialized RX9, Cond.code yX9_isSetOfPeople cX9_isSetOfPeople 2 (some .boolean), Cond.fieldLink RX9 56 "SpeltByFriends$Town" "size" "I", Cond.methodLink RX11 156 yX7_planDays, Cond.instanceMethod yX7_planDays, Cond.selects RX7 yX7_planDays yX7_planDays, Cond.initialized RX7, Cond.code yX7_planDays cX7_planDays 4 (some .int), Cond.fieldLink RX7 18 "SpeltByFriends$Town" "size" "I", Cond.fieldLink RX7 53 "SpeltByFriends$Plans" "companiesEnd" "I", Cond.fieldLink RX7 9 "SpeltByFriends$Plans" "writtenIn" "[I", Cond.methodLink RX7 56 yX7_whoIsWritten, Cond.instanceMethod yX7_whoIsWritten, Cond.selects RX7 yX7_whoIsWritten yX7_whoIsWritten, Cond.code yX7_whoIsWritten cX7_whoIsWritten 5 (some .int), Cond.methodLink RX7 40 yX9_canWrite]
def wsX11_days_r2 : List Cond := [Cond.instanceMethod yX9_canWrite, Cond.selects RX9 yX9_canWrite yX9_canWrite, Cond.code yX9_canWrite cX9_canWrite 3 (some .boolean), Cond.fieldLink RX9 12 "SpeltByFriends$Town" "ledger" "LSpeltByFriends$Ledger;", Cond.fieldLink RX9 64 "SpeltByFriends$Ledger" "firstHolder" "[I", Cond.fieldLink RX9 75 "SpeltByFriends$Ledger" "lastHolder" "[I", Cond.static yX11_at, Cond.initialized RX11, Cond.code yX11_at cX11_at 2 (some .int), Cond.methodLink RX9 99 yX9_couldWrite, Cond.instanceMethod yX9_couldWrite, Cond.selects RX9 yX9_couldWrite yX9_couldWrite, Cond.code yX9_couldWrite cX9_couldWrite 11 (some .boolean), Cond.fieldLink RX9 103 "SpeltByFriends$Ledger" "foes" "[I", Cond.methodLink RX9 85 yX9_personAt, Cond.instanceMethod yX9_personAt, Cond.selects RX9 yX9_personAt yX9_personAt, Cond.code yX9_personAt cX9_personAt 2 (some (.object "SpeltByFriends$Person")), Cond.fieldLink RX9 39 "SpeltByFriends$Town" "people" "[LSpeltByFriends$Person;", Cond.methodLink RX9 82 yX9_has, Cond.instanceMethod yX9_has, Cond.selects RX9 yX9_has yX9_has, Cond.code yX9_has cX9_has 2 (some .boolean), Cond.methodLink RX9 106 ⟨"SpeltByFriends$Person", "isSpelt", "(ZZII)Z"⟩]
def wsX11_days_r3 : List Cond := [Cond.sameMethod "SpeltByFriends$Person" "SpeltByFriends$Person" "isSpelt" "(ZZII)Z", Cond.instanceMethod ⟨"SpeltByFriends$Person", "isSpelt", "(ZZII)Z"⟩, Cond.selects RX0 ⟨"SpeltByFriends$Person", "isSpelt", "(ZZII)Z"⟩ yX0_isSpelt, Cond.instanceMethod yX0_isSpelt, Cond.initialized RX0, Cond.code yX0_isSpelt cX0_isSpelt 5 (some .boolean), Cond.code yX6_isSpelt cX6_isSpelt 5 (some .boolean), Cond.selects RX2 ⟨"SpeltByFriends$Person", "isSpelt", "(ZZII)Z"⟩ yX2_isSpelt, Cond.instanceMethod yX2_isSpelt, Cond.initialized RX2, Cond.code yX2_isSpelt cX2_isSpelt 5 (some .boolean), Cond.methodLink RX9 106 yX6_isSpelt, Cond.instanceMethod yX6_isSpelt, Cond.selects RX6 yX6_isSpelt yX6_isSpelt, Cond.initialized RX6, Cond.selects RX8 ⟨"SpeltByFriends$Person", "isSpelt", "(ZZII)Z"⟩ yX8_isSpelt, Cond.instanceMethod yX8_isSpelt, Cond.initialized RX8, Cond.code yX8_isSpelt cX8_isSpelt 5 (some .boolean), Cond.selects RX10 ⟨"SpeltByFriends$Person", "isSpelt", "(ZZII)Z"⟩ yX10_isSpelt, Cond.instanceMethod yX10_isSpelt, Cond.initialized RX10, Cond.code yX10_isSpelt cX10_isSpelt 5 (some .boolean), Cond.static yX11_put]
def wsX11_days_r4 : List Cond := [Cond.code yX11_put cX11_put 3 none, Cond.methodLink RX7 64 yX7_cover, Cond.instanceMethod yX7_cover, Cond.selects RX7 yX7_cover yX7_cover, Cond.code yX7_cover cX7_cover 6 (some .boolean), Cond.fieldLink RX7 15 "SpeltByFriends$Plans" "companies" "[I", Cond.methodLink RX11 115 yX11_at]
def wsX11_days : List Cond := .code yX11_days cX11_days 4 (some .int) :: ((wsX11_days_r1 ++ (wsX11_days_r2 ++ (wsX11_days_r3 ++ wsX11_days_r4))) ++ wsX110 ++ wsX90 ++ wsX70 ++ wsX30)
def wsX11_hear_r1 : List Cond := [Cond.fieldLink RX11 19 "SpeltByFriends" "here" "LSpeltByFriends$Town;", Cond.fieldLink RX11 92 "SpeltByFriends$Town" "ledger" "LSpeltByFriends$Ledger;", Cond.fieldLink RX11 162 "SpeltByFriends$Ledger" "heard" "I", Cond.methodLink RX11 77 yX9_has, Cond.instanceMethod yX9_has, Cond.selects RX9 yX9_has yX9_has, Cond.initialized RX9, Cond.code yX9_has cX9_has 2 (some .boolean), Cond.fieldLink RX9 56 "SpeltByFriends$Town" "size" "I", Cond.methodLink RX11 133 yX9_isCompanyOf, Cond.instanceMethod yX9_isCompanyOf, Cond.selects RX9 yX9_isCompanyOf yX9_isCompanyOf, Cond.code yX9_isCompanyOf cX9_isCompanyOf 3 (some .boolean), Cond.methodLink RX9 78 yX9_isSetOfPeople, Cond.instanceMethod yX9_isSetOfPeople, Cond.selects RX9 yX9_isSetOfPeople yX9_isSetOfPeople, Cond.code yX9_isSetOfPeople cX9_isSetOfPeople 2 (some .boolean), Cond.methodLink RX11 165 yX3_addHeard, Cond.instanceMethod yX3_addHeard, Cond.selects RX3 yX3_addHeard yX3_addHeard, Cond.initialized RX3, Cond.code yX3_addHeard cX3_addHeard 4 none, Cond.fieldLink RX3 21 "SpeltByFriends$Ledger" "heardOf" "[I", Cond.fieldLink RX3 38 "SpeltByFriends$Ledger" "heard" "I"]
def wsX11_hear_r2 : List Cond := [Cond.fieldLink RX3 24 "SpeltByFriends$Ledger" "heardIn" "[I", Cond.fieldLink RX3 27 "SpeltByFriends$Ledger" "heardYes" "[I", Cond.static yX11_put, Cond.initialized RX11, Cond.code yX11_put cX11_put 3 none]
def wsX11_hear : List Cond := .code yX11_hear cX11_hear 5 (some .int) :: ((wsX11_hear_r1 ++ wsX11_hear_r2) ++ wsX110 ++ wsX90 ++ wsX30)
def wsX11_forget : List Cond := .code yX11_forget cX11_forget 2 (some .int) :: ([.fieldLink RX11 19 "SpeltByFriends" "here" "LSpeltByFriends$Town;", .fieldLink RX11 92 "SpeltByFriends$Town" "ledger" "LSpeltByFriends$Ledger;", .fieldLink RX11 162 "SpeltByFriends$Ledger" "heard" "I"] ++ wsX110 ++ wsX90 ++ wsX30)
def wsX11_holders_r1 : List Cond := [Cond.fieldLink RX11 19 "SpeltByFriends" "here" "LSpeltByFriends$Town;", Cond.fieldLink RX11 40 "SpeltByFriends" "guesses" "LSpeltByFriends$Guesses;", Cond.fieldLink RX11 172 "SpeltByFriends$Guesses" "many" "I", Cond.methodLink RX11 77 yX9_has, Cond.instanceMethod yX9_has, Cond.selects RX9 yX9_has yX9_has, Cond.initialized RX9, Cond.code yX9_has cX9_has 2 (some .boolean), Cond.fieldLink RX9 56 "SpeltByFriends$Town" "size" "I", Cond.methodLink RX11 168 yX1_gather, Cond.instanceMethod yX1_gather, Cond.selects RX1 yX1_gather yX1_gather, Cond.initialized RX1, Cond.code yX1_gather cX1_gather 5 none, Cond.fieldLink RX1 18 "SpeltByFriends$Guesses" "person" "I", Cond.fieldLink RX1 22 "SpeltByFriends$Guesses" "many" "I", Cond.fieldLink RX1 25 "SpeltByFriends$Town" "size" "I", Cond.fieldLink RX1 9 "SpeltByFriends$Guesses" "firsts" "[I", Cond.fieldLink RX1 15 "SpeltByFriends$Guesses" "lasts" "[I", Cond.methodLink RX1 30 yX1_agrees, Cond.instanceMethod yX1_agrees, Cond.selects RX1 yX1_agrees yX1_agrees, Cond.code yX1_agrees cX1_agrees 7 (some .boolean), Cond.fieldLink RX1 38 "SpeltByFriends$Town" "ledger" "LSpeltByFriends$Ledger;"]
def wsX11_holders_r2 : List Cond := [Cond.fieldLink RX1 42 "SpeltByFriends$Ledger" "heard" "I", Cond.fieldLink RX1 47 "SpeltByFriends$Ledger" "heardOf" "[I", Cond.fieldLink RX1 54 "SpeltByFriends$Ledger" "heardIn" "[I", Cond.fieldLink RX1 61 "SpeltByFriends$Ledger" "heardYes" "[I", Cond.static yX11_at, Cond.initialized RX11, Cond.code yX11_at cX11_at 2 (some .int), Cond.methodLink RX1 57 yX9_couldWrite, Cond.instanceMethod yX9_couldWrite, Cond.selects RX9 yX9_couldWrite yX9_couldWrite, Cond.code yX9_couldWrite cX9_couldWrite 11 (some .boolean), Cond.fieldLink RX9 12 "SpeltByFriends$Town" "ledger" "LSpeltByFriends$Ledger;", Cond.fieldLink RX9 103 "SpeltByFriends$Ledger" "foes" "[I", Cond.methodLink RX9 85 yX9_personAt, Cond.instanceMethod yX9_personAt, Cond.selects RX9 yX9_personAt yX9_personAt, Cond.code yX9_personAt cX9_personAt 2 (some (.object "SpeltByFriends$Person")), Cond.fieldLink RX9 39 "SpeltByFriends$Town" "people" "[LSpeltByFriends$Person;", Cond.methodLink RX9 82 yX9_has, Cond.methodLink RX9 106 ⟨"SpeltByFriends$Person", "isSpelt", "(ZZII)Z"⟩, Cond.sameMethod "SpeltByFriends$Person" "SpeltByFriends$Person" "isSpelt" "(ZZII)Z", Cond.instanceMethod ⟨"SpeltByFriends$Person", "isSpelt", "(ZZII)Z"⟩, Cond.selects RX0 ⟨"SpeltByFriends$Person", "isSpelt", "(ZZII)Z"⟩ yX0_isSpelt, Cond.instanceMethod yX0_isSpelt]
def wsX11_holders_r3 : List Cond := [Cond.initialized RX0, Cond.code yX0_isSpelt cX0_isSpelt 5 (some .boolean), Cond.code yX6_isSpelt cX6_isSpelt 5 (some .boolean), Cond.selects RX2 ⟨"SpeltByFriends$Person", "isSpelt", "(ZZII)Z"⟩ yX2_isSpelt, Cond.instanceMethod yX2_isSpelt, Cond.initialized RX2, Cond.code yX2_isSpelt cX2_isSpelt 5 (some .boolean), Cond.methodLink RX9 106 yX6_isSpelt, Cond.instanceMethod yX6_isSpelt, Cond.selects RX6 yX6_isSpelt yX6_isSpelt, Cond.initialized RX6, Cond.selects RX8 ⟨"SpeltByFriends$Person", "isSpelt", "(ZZII)Z"⟩ yX8_isSpelt, Cond.instanceMethod yX8_isSpelt, Cond.initialized RX8, Cond.code yX8_isSpelt cX8_isSpelt 5 (some .boolean), Cond.selects RX10 ⟨"SpeltByFriends$Person", "isSpelt", "(ZZII)Z"⟩ yX10_isSpelt, Cond.instanceMethod yX10_isSpelt, Cond.initialized RX10, Cond.code yX10_isSpelt cX10_isSpelt 5 (some .boolean), Cond.static yX11_put, Cond.code yX11_put cX11_put 3 none, Cond.methodLink RX11 175 yX1_least, Cond.instanceMethod yX1_least, Cond.selects RX1 yX1_least yX1_least]
def wsX11_holders_r4 : List Cond := [Cond.code yX1_least cX1_least 1 (some .int)]
def wsX11_holders : List Cond := .code yX11_holders cX11_holders 3 (some .int) :: ((wsX11_holders_r1 ++ (wsX11_holders_r2 ++ (wsX11_holders_r3 ++ wsX11_holders_r4))) ++ wsX110 ++ wsX10 ++ wsX90 ++ wsX30)
def wsX11_invite_r1 : List Cond := [Cond.fieldLink RX11 19 "SpeltByFriends" "here" "LSpeltByFriends$Town;", Cond.fieldLink RX11 40 "SpeltByFriends" "guesses" "LSpeltByFriends$Guesses;", Cond.methodLink RX11 77 yX9_has, Cond.instanceMethod yX9_has, Cond.selects RX9 yX9_has yX9_has, Cond.initialized RX9, Cond.code yX9_has cX9_has 2 (some .boolean), Cond.fieldLink RX9 56 "SpeltByFriends$Town" "size" "I", Cond.methodLink RX11 168 yX1_gather, Cond.instanceMethod yX1_gather, Cond.selects RX1 yX1_gather yX1_gather, Cond.initialized RX1, Cond.code yX1_gather cX1_gather 5 none, Cond.fieldLink RX1 18 "SpeltByFriends$Guesses" "person" "I", Cond.fieldLink RX1 22 "SpeltByFriends$Guesses" "many" "I", Cond.fieldLink RX1 25 "SpeltByFriends$Town" "size" "I", Cond.fieldLink RX1 9 "SpeltByFriends$Guesses" "firsts" "[I", Cond.fieldLink RX1 15 "SpeltByFriends$Guesses" "lasts" "[I", Cond.methodLink RX1 30 yX1_agrees, Cond.instanceMethod yX1_agrees, Cond.selects RX1 yX1_agrees yX1_agrees, Cond.code yX1_agrees cX1_agrees 7 (some .boolean), Cond.fieldLink RX1 38 "SpeltByFriends$Town" "ledger" "LSpeltByFriends$Ledger;", Cond.fieldLink RX1 42 "SpeltByFriends$Ledger" "heard" "I"]
def wsX11_invite_r2 : List Cond := [Cond.fieldLink RX1 47 "SpeltByFriends$Ledger" "heardOf" "[I", Cond.fieldLink RX1 54 "SpeltByFriends$Ledger" "heardIn" "[I", Cond.fieldLink RX1 61 "SpeltByFriends$Ledger" "heardYes" "[I", Cond.static yX11_at, Cond.initialized RX11, Cond.code yX11_at cX11_at 2 (some .int), Cond.methodLink RX1 57 yX9_couldWrite, Cond.instanceMethod yX9_couldWrite, Cond.selects RX9 yX9_couldWrite yX9_couldWrite, Cond.code yX9_couldWrite cX9_couldWrite 11 (some .boolean), Cond.fieldLink RX9 12 "SpeltByFriends$Town" "ledger" "LSpeltByFriends$Ledger;", Cond.fieldLink RX9 103 "SpeltByFriends$Ledger" "foes" "[I", Cond.methodLink RX9 85 yX9_personAt, Cond.instanceMethod yX9_personAt, Cond.selects RX9 yX9_personAt yX9_personAt, Cond.code yX9_personAt cX9_personAt 2 (some (.object "SpeltByFriends$Person")), Cond.fieldLink RX9 39 "SpeltByFriends$Town" "people" "[LSpeltByFriends$Person;", Cond.methodLink RX9 82 yX9_has, Cond.methodLink RX9 106 ⟨"SpeltByFriends$Person", "isSpelt", "(ZZII)Z"⟩, Cond.sameMethod "SpeltByFriends$Person" "SpeltByFriends$Person" "isSpelt" "(ZZII)Z", Cond.instanceMethod ⟨"SpeltByFriends$Person", "isSpelt", "(ZZII)Z"⟩, Cond.selects RX0 ⟨"SpeltByFriends$Person", "isSpelt", "(ZZII)Z"⟩ yX0_isSpelt, Cond.instanceMethod yX0_isSpelt, Cond.initialized RX0]
def wsX11_invite_r3 : List Cond := [Cond.code yX0_isSpelt cX0_isSpelt 5 (some .boolean), Cond.code yX6_isSpelt cX6_isSpelt 5 (some .boolean), Cond.selects RX2 ⟨"SpeltByFriends$Person", "isSpelt", "(ZZII)Z"⟩ yX2_isSpelt, Cond.instanceMethod yX2_isSpelt, Cond.initialized RX2, Cond.code yX2_isSpelt cX2_isSpelt 5 (some .boolean), Cond.methodLink RX9 106 yX6_isSpelt, Cond.instanceMethod yX6_isSpelt, Cond.selects RX6 yX6_isSpelt yX6_isSpelt, Cond.initialized RX6, Cond.selects RX8 ⟨"SpeltByFriends$Person", "isSpelt", "(ZZII)Z"⟩ yX8_isSpelt, Cond.instanceMethod yX8_isSpelt, Cond.initialized RX8, Cond.code yX8_isSpelt cX8_isSpelt 5 (some .boolean), Cond.selects RX10 ⟨"SpeltByFriends$Person", "isSpelt", "(ZZII)Z"⟩ yX10_isSpelt, Cond.instanceMethod yX10_isSpelt, Cond.initialized RX10, Cond.code yX10_isSpelt cX10_isSpelt 5 (some .boolean), Cond.static yX11_put, Cond.code yX11_put cX11_put 3 none, Cond.methodLink RX11 178 yX1_bestCompany, Cond.instanceMethod yX1_bestCompany, Cond.selects RX1 yX1_bestCompany yX1_bestCompany, Cond.code yX1_bestCompany cX1_bestCompany 6 (some .int)]
def wsX11_invite_r4 : List Cond := [Cond.methodLink RX1 64 yX9_isCompanyOf, Cond.instanceMethod yX9_isCompanyOf, Cond.selects RX9 yX9_isCompanyOf yX9_isCompanyOf, Cond.code yX9_isCompanyOf cX9_isCompanyOf 3 (some .boolean), Cond.methodLink RX9 78 yX9_isSetOfPeople, Cond.instanceMethod yX9_isSetOfPeople, Cond.selects RX9 yX9_isSetOfPeople yX9_isSetOfPeople, Cond.code yX9_isSetOfPeople cX9_isSetOfPeople 2 (some .boolean), Cond.methodLink RX1 68 yX1_leftAtWorst, Cond.instanceMethod yX1_leftAtWorst, Cond.selects RX1 yX1_leftAtWorst yX1_leftAtWorst, Cond.code yX1_leftAtWorst cX1_leftAtWorst 5 (some .int), Cond.methodLink RX1 72 Lib.Math.max.name, Cond.static Lib.Math.max.name, Cond.initialized "java/lang/Math", Cond.code Lib.Math.max.name Lib.Math.max.code 2 (some .int)]
def wsX11_invite : List Cond := .code yX11_invite cX11_invite 2 (some .int) :: ((wsX11_invite_r1 ++ (wsX11_invite_r2 ++ (wsX11_invite_r3 ++ wsX11_invite_r4))) ++ wsX110 ++ wsX90 ++ wsX10 ++ wsX30)
def wsX11_years_r1 : List Cond := [Cond.fieldLink RX11 19 "SpeltByFriends" "here" "LSpeltByFriends$Town;", Cond.fieldLink RX11 74 "SpeltByFriends$Town" "size" "I", Cond.fieldLink RX11 47 "SpeltByFriends" "lottery" "LSpeltByFriends$Lottery;", Cond.fieldLink RX11 186 "SpeltByFriends$Lottery" "together" "I", Cond.fieldLink RX11 189 "SpeltByFriends$Lottery" "inTheEnd" "I", Cond.fieldLink RX11 192 "SpeltByFriends$Lottery" "seed" "I", Cond.methodLink RX11 182 yX4_play, Cond.instanceMethod yX4_play, Cond.selects RX4 yX4_play yX4_play, Cond.initialized RX4, Cond.code yX4_play cX4_play 7 none, Cond.fieldLink RX4 9 "SpeltByFriends$Lottery" "seed" "I", Cond.fieldLink RX4 15 "SpeltByFriends$Lottery" "together" "I", Cond.fieldLink RX4 18 "SpeltByFriends$Town" "ledger" "LSpeltByFriends$Ledger;", Cond.fieldLink RX4 24 "SpeltByFriends$Ledger" "rooms" "I", Cond.fieldLink RX4 29 "SpeltByFriends$Town" "size" "I", Cond.fieldLink RX4 43 "SpeltByFriends$Lottery" "inTheEnd" "I", Cond.methodLink RX4 32 yX4_draw, Cond.instanceMethod yX4_draw, Cond.selects RX4 yX4_draw yX4_draw, Cond.code yX4_draw cX4_draw 2 (some .int), Cond.constantLong RX4 46 (1103515245), Cond.constantLong RX4 48 (12345), Cond.constantLong RX4 50 (2147483647)]
def wsX11_years_r2 : List Cond := [Cond.static yX11_withRoom, Cond.initialized RX11, Cond.code yX11_withRoom cX11_withRoom 4 (some .int), Cond.methodLink RX11 239 yX11_shiftOf, Cond.static yX11_shiftOf, Cond.code yX11_shiftOf cX11_shiftOf 1 (some .int), Cond.methodLink RX4 40 yX9_howManyWritten, Cond.instanceMethod yX9_howManyWritten, Cond.selects RX9 yX9_howManyWritten yX9_howManyWritten, Cond.initialized RX9, Cond.code yX9_howManyWritten cX9_howManyWritten 4 (some .int), Cond.fieldLink RX9 56 "SpeltByFriends$Town" "size" "I", Cond.methodLink RX9 110 yX9_companyIn, Cond.instanceMethod yX9_companyIn, Cond.selects RX9 yX9_companyIn yX9_companyIn, Cond.code yX9_companyIn cX9_companyIn 6 (some .int), Cond.static yX11_roomIn, Cond.code yX11_roomIn cX11_roomIn 2 (some .int), Cond.methodLink RX9 113 yX9_canWrite, Cond.instanceMethod yX9_canWrite, Cond.selects RX9 yX9_canWrite yX9_canWrite, Cond.code yX9_canWrite cX9_canWrite 3 (some .boolean), Cond.fieldLink RX9 12 "SpeltByFriends$Town" "ledger" "LSpeltByFriends$Ledger;", Cond.fieldLink RX9 64 "SpeltByFriends$Ledger" "firstHolder" "[I"]
def wsX11_years_r3 : List Cond := [Cond.fieldLink RX9 75 "SpeltByFriends$Ledger" "lastHolder" "[I", Cond.static yX11_at, Cond.code yX11_at cX11_at 2 (some .int), Cond.methodLink RX9 99 yX9_couldWrite, Cond.instanceMethod yX9_couldWrite, Cond.selects RX9 yX9_couldWrite yX9_couldWrite, Cond.code yX9_couldWrite cX9_couldWrite 11 (some .boolean), Cond.fieldLink RX9 103 "SpeltByFriends$Ledger" "foes" "[I", Cond.methodLink RX9 85 yX9_personAt, Cond.instanceMethod yX9_personAt, Cond.selects RX9 yX9_personAt yX9_personAt, Cond.code yX9_personAt cX9_personAt 2 (some (.object "SpeltByFriends$Person")), Cond.fieldLink RX9 39 "SpeltByFriends$Town" "people" "[LSpeltByFriends$Person;", Cond.methodLink RX9 82 yX9_has, Cond.instanceMethod yX9_has, Cond.selects RX9 yX9_has yX9_has, Cond.code yX9_has cX9_has 2 (some .boolean), Cond.methodLink RX9 106 ⟨"SpeltByFriends$Person", "isSpelt", "(ZZII)Z"⟩, Cond.sameMethod "SpeltByFriends$Person" "SpeltByFriends$Person" "isSpelt" "(ZZII)Z", Cond.instanceMethod ⟨"SpeltByFriends$Person", "isSpelt", "(ZZII)Z"⟩, Cond.selects RX0 ⟨"SpeltByFriends$Person", "isSpelt", "(ZZII)Z"⟩ yX0_isSpelt, Cond.instanceMethod yX0_isSpelt, Cond.initialized RX0, Cond.code yX0_isSpelt cX0_isSpelt 5 (some .boolean)]
def wsX11_years_r4 : List Cond := [Cond.code yX6_isSpelt cX6_isSpelt 5 (some .boolean), Cond.selects RX2 ⟨"SpeltByFriends$Person", "isSpelt", "(ZZII)Z"⟩ yX2_isSpelt, Cond.instanceMethod yX2_isSpelt, Cond.initialized RX2, Cond.code yX2_isSpelt cX2_isSpelt 5 (some .boolean), Cond.methodLink RX9 106 yX6_isSpelt, Cond.instanceMethod yX6_isSpelt, Cond.selects RX6 yX6_isSpelt yX6_isSpelt, Cond.initialized RX6, Cond.selects RX8 ⟨"SpeltByFriends$Person", "isSpelt", "(ZZII)Z"⟩ yX8_isSpelt, Cond.instanceMethod yX8_isSpelt, Cond.initialized RX8, Cond.code yX8_isSpelt cX8_isSpelt 5 (some .boolean), Cond.selects RX10 ⟨"SpeltByFriends$Person", "isSpelt", "(ZZII)Z"⟩ yX10_isSpelt, Cond.instanceMethod yX10_isSpelt, Cond.initialized RX10, Cond.code yX10_isSpelt cX10_isSpelt 5 (some .boolean)]
def wsX11_years : List Cond := .code yX11_years cX11_years 4 (some .int) :: ((wsX11_years_r1 ++ (wsX11_years_r2 ++ (wsX11_years_r3 ++ wsX11_years_r4))) ++ wsX110 ++ wsX90 ++ wsX40 ++ wsX30)
def wsX11_image_r1 : List Cond := [Cond.fieldLink RX11 19 "SpeltByFriends" "here" "LSpeltByFriends$Town;", Cond.fieldLink RX11 74 "SpeltByFriends$Town" "size" "I", Cond.fieldLink RX11 26 "SpeltByFriends" "kept" "LSpeltByFriends$Ledger;", Cond.fieldLink RX11 92 "SpeltByFriends$Town" "ledger" "LSpeltByFriends$Ledger;", Cond.fieldLink RX11 71 "SpeltByFriends" "townsRead" "I", Cond.fieldLink RX11 199 "SpeltByFriends" "keptOfTown" "I", Cond.fieldLink RX11 105 "SpeltByFriends$Ledger" "went" "I", Cond.fieldLink RX11 123 "SpeltByFriends$Ledger" "sold" "I", Cond.methodLink RX11 195 yX3_copy, Cond.instanceMethod yX3_copy, Cond.selects RX3 yX3_copy yX3_copy, Cond.initialized RX3, Cond.code yX3_copy cX3_copy 3 none, Cond.fieldLink RX3 9 "SpeltByFriends$Ledger" "firstHolder" "[I", Cond.fieldLink RX3 15 "SpeltByFriends$Ledger" "lastHolder" "[I", Cond.fieldLink RX3 18 "SpeltByFriends$Ledger" "foes" "[I", Cond.fieldLink RX3 21 "SpeltByFriends$Ledger" "heardOf" "[I", Cond.fieldLink RX3 24 "SpeltByFriends$Ledger" "heardIn" "[I", Cond.fieldLink RX3 27 "SpeltByFriends$Ledger" "heardYes" "[I", Cond.fieldLink RX3 34 "SpeltByFriends$Ledger" "rooms" "I", Cond.fieldLink RX3 38 "SpeltByFriends$Ledger" "heard" "I", Cond.fieldLink RX3 41 "SpeltByFriends$Ledger" "went" "I", Cond.fieldLink RX3 44 "SpeltByFriends$Ledger" "sold" "I", Cond.static yX11_at]
def wsX11_image_r2 : List Cond := [Cond.initialized RX11, Cond.code yX11_at cX11_at 2 (some .int), Cond.static yX11_put, Cond.code yX11_put cX11_put 3 none]
def wsX11_image : List Cond := .code yX11_image cX11_image 1 (some .int) :: ((wsX11_image_r1 ++ wsX11_image_r2) ++ wsX110 ++ wsX90 ++ wsX30)
def wsX11_restore_r1 : List Cond := [Cond.fieldLink RX11 199 "SpeltByFriends" "keptOfTown" "I", Cond.fieldLink RX11 71 "SpeltByFriends" "townsRead" "I", Cond.fieldLink RX11 19 "SpeltByFriends" "here" "LSpeltByFriends$Town;", Cond.fieldLink RX11 92 "SpeltByFriends$Town" "ledger" "LSpeltByFriends$Ledger;", Cond.fieldLink RX11 26 "SpeltByFriends" "kept" "LSpeltByFriends$Ledger;", Cond.fieldLink RX11 105 "SpeltByFriends$Ledger" "went" "I", Cond.fieldLink RX11 123 "SpeltByFriends$Ledger" "sold" "I", Cond.methodLink RX11 195 yX3_copy, Cond.instanceMethod yX3_copy, Cond.selects RX3 yX3_copy yX3_copy, Cond.initialized RX3, Cond.code yX3_copy cX3_copy 3 none, Cond.fieldLink RX3 9 "SpeltByFriends$Ledger" "firstHolder" "[I", Cond.fieldLink RX3 15 "SpeltByFriends$Ledger" "lastHolder" "[I", Cond.fieldLink RX3 18 "SpeltByFriends$Ledger" "foes" "[I", Cond.fieldLink RX3 21 "SpeltByFriends$Ledger" "heardOf" "[I", Cond.fieldLink RX3 24 "SpeltByFriends$Ledger" "heardIn" "[I", Cond.fieldLink RX3 27 "SpeltByFriends$Ledger" "heardYes" "[I", Cond.fieldLink RX3 34 "SpeltByFriends$Ledger" "rooms" "I", Cond.fieldLink RX3 38 "SpeltByFriends$Ledger" "heard" "I", Cond.fieldLink RX3 41 "SpeltByFriends$Ledger" "went" "I", Cond.fieldLink RX3 44 "SpeltByFriends$Ledger" "sold" "I", Cond.static yX11_at, Cond.initialized RX11]
def wsX11_restore_r2 : List Cond := [Cond.code yX11_at cX11_at 2 (some .int), Cond.static yX11_put, Cond.code yX11_put cX11_put 3 none]
def wsX11_restore : List Cond := .code yX11_restore cX11_restore 1 (some .int) :: ((wsX11_restore_r1 ++ wsX11_restore_r2) ++ wsX110 ++ wsX90 ++ wsX30)
def wsX11_count_r1 : List Cond := [Cond.fieldLink RX11 19 "SpeltByFriends" "here" "LSpeltByFriends$Town;", Cond.fieldLink RX11 74 "SpeltByFriends$Town" "size" "I", Cond.fieldLink RX11 92 "SpeltByFriends$Town" "ledger" "LSpeltByFriends$Ledger;", Cond.fieldLink RX11 95 "SpeltByFriends$Ledger" "rooms" "I", Cond.fieldLink RX11 105 "SpeltByFriends$Ledger" "went" "I", Cond.fieldLink RX11 123 "SpeltByFriends$Ledger" "sold" "I", Cond.fieldLink RX11 162 "SpeltByFriends$Ledger" "heard" "I", Cond.fieldLink RX11 10 "SpeltByFriends" "page" "LSpeltByFriends$Page;", Cond.fieldLink RX11 55 "SpeltByFriends$Page" "length" "I", Cond.fieldLink RX11 71 "SpeltByFriends" "townsRead" "I", Cond.fieldLink RX11 140 "SpeltByFriends" "movesDone" "I", Cond.fieldLink RX11 153 "SpeltByFriends" "daysDone" "I", Cond.methodLink RX11 202 yX9_howManyWritten, Cond.instanceMethod yX9_howManyWritten, Cond.selects RX9 yX9_howManyWritten yX9_howManyWritten, Cond.initialized RX9, Cond.code yX9_howManyWritten cX9_howManyWritten 4 (some .int), Cond.fieldLink RX9 56 "SpeltByFriends$Town" "size" "I", Cond.methodLink RX9 110 yX9_companyIn, Cond.instanceMethod yX9_companyIn, Cond.selects RX9 yX9_companyIn yX9_companyIn, Cond.code yX9_companyIn cX9_companyIn 6 (some .int), Cond.static yX11_roomIn, Cond.initialized RX11]
def wsX11_count_r2 : List Cond := [Cond.code yX11_roomIn cX11_roomIn 2 (some .int), Cond.methodLink RX11 239 yX11_shiftOf, Cond.static yX11_shiftOf, Cond.code yX11_shiftOf cX11_shiftOf 1 (some .int), Cond.methodLink RX9 113 yX9_canWrite, Cond.instanceMethod yX9_canWrite, Cond.selects RX9 yX9_canWrite yX9_canWrite, Cond.code yX9_canWrite cX9_canWrite 3 (some .boolean), Cond.fieldLink RX9 12 "SpeltByFriends$Town" "ledger" "LSpeltByFriends$Ledger;", Cond.fieldLink RX9 64 "SpeltByFriends$Ledger" "firstHolder" "[I", Cond.fieldLink RX9 75 "SpeltByFriends$Ledger" "lastHolder" "[I", Cond.static yX11_at, Cond.code yX11_at cX11_at 2 (some .int), Cond.methodLink RX9 99 yX9_couldWrite, Cond.instanceMethod yX9_couldWrite, Cond.selects RX9 yX9_couldWrite yX9_couldWrite, Cond.code yX9_couldWrite cX9_couldWrite 11 (some .boolean), Cond.fieldLink RX9 103 "SpeltByFriends$Ledger" "foes" "[I", Cond.methodLink RX9 85 yX9_personAt, Cond.instanceMethod yX9_personAt, Cond.selects RX9 yX9_personAt yX9_personAt, Cond.code yX9_personAt cX9_personAt 2 (some (.object "SpeltByFriends$Person")), Cond.fieldLink RX9 39 "SpeltByFriends$Town" "people" "[LSpeltByFriends$Person;", Cond.methodLink RX9 82 yX9_has]
def wsX11_count_r3 : List Cond := [Cond.instanceMethod yX9_has, Cond.selects RX9 yX9_has yX9_has, Cond.code yX9_has cX9_has 2 (some .boolean), Cond.methodLink RX9 106 ⟨"SpeltByFriends$Person", "isSpelt", "(ZZII)Z"⟩, Cond.sameMethod "SpeltByFriends$Person" "SpeltByFriends$Person" "isSpelt" "(ZZII)Z", Cond.instanceMethod ⟨"SpeltByFriends$Person", "isSpelt", "(ZZII)Z"⟩, Cond.selects RX0 ⟨"SpeltByFriends$Person", "isSpelt", "(ZZII)Z"⟩ yX0_isSpelt, Cond.instanceMethod yX0_isSpelt, Cond.initialized RX0, Cond.code yX0_isSpelt cX0_isSpelt 5 (some .boolean), Cond.code yX6_isSpelt cX6_isSpelt 5 (some .boolean), Cond.selects RX2 ⟨"SpeltByFriends$Person", "isSpelt", "(ZZII)Z"⟩ yX2_isSpelt, Cond.instanceMethod yX2_isSpelt, Cond.initialized RX2, Cond.code yX2_isSpelt cX2_isSpelt 5 (some .boolean), Cond.methodLink RX9 106 yX6_isSpelt, Cond.instanceMethod yX6_isSpelt, Cond.selects RX6 yX6_isSpelt yX6_isSpelt, Cond.initialized RX6, Cond.selects RX8 ⟨"SpeltByFriends$Person", "isSpelt", "(ZZII)Z"⟩ yX8_isSpelt, Cond.instanceMethod yX8_isSpelt, Cond.initialized RX8, Cond.code yX8_isSpelt cX8_isSpelt 5 (some .boolean), Cond.selects RX10 ⟨"SpeltByFriends$Person", "isSpelt", "(ZZII)Z"⟩ yX10_isSpelt]
def wsX11_count_r4 : List Cond := [Cond.instanceMethod yX10_isSpelt, Cond.initialized RX10, Cond.code yX10_isSpelt cX10_isSpelt 5 (some .boolean), Cond.methodLink RX11 206 yX9_quarrellingPairs, Cond.instanceMethod yX9_quarrellingPairs, Cond.selects RX9 yX9_quarrellingPairs yX9_quarrellingPairs, Cond.code yX9_quarrellingPairs cX9_quarrellingPairs 3 (some .int), Cond.methodLink RX9 117 yJ6_bitCount_0f7a4, Cond.static yJ6_bitCount_0f7a4, Cond.initialized RJ6, Cond.code yJ6_bitCount_0f7a4 cJ6_bitCount_0f7a4 1 (some .int), Cond.constant RJ6 265 (1431655765), Cond.constant RJ6 266 (858993459), Cond.constant RJ6 267 (252645135)]
def wsX11_count : List Cond := .code yX11_count cX11_count 2 (some .int) :: ((wsX11_count_r1 ++ (wsX11_count_r2 ++ (wsX11_count_r3 ++ wsX11_count_r4))) ++ wsX110 ++ wsX90 ++ wsX30 ++ wsX50)
def wsX11_digest_r1 : List Cond := [Cond.constantLong RX11 209 (983), Cond.fieldLink RX11 19 "SpeltByFriends" "here" "LSpeltByFriends$Town;", Cond.fieldLink RX11 74 "SpeltByFriends$Town" "size" "I", Cond.constantLong RX11 211 (31), Cond.fieldLink RX11 40 "SpeltByFriends" "guesses" "LSpeltByFriends$Guesses;", Cond.fieldLink RX11 172 "SpeltByFriends$Guesses" "many" "I", Cond.fieldLink RX11 10 "SpeltByFriends" "page" "LSpeltByFriends$Page;", Cond.fieldLink RX11 55 "SpeltByFriends$Page" "length" "I", Cond.fieldLink RX11 213 "SpeltByFriends$Page" "letters" "[I", Cond.methodLink RX11 80 yX11_tellAbout, Cond.instanceMethod yX11_tellAbout, Cond.selects RX11 yX11_tellAbout yX11_tellAbout, Cond.initialized RX11, Cond.code yX11_tellAbout cX11_tellAbout 4 (some .int), Cond.fieldLink RX11 92 "SpeltByFriends$Town" "ledger" "LSpeltByFriends$Ledger;", Cond.fieldLink RX11 108 "SpeltByFriends$Ledger" "firstHolder" "[I", Cond.fieldLink RX11 112 "SpeltByFriends$Ledger" "lastHolder" "[I", Cond.fieldLink RX11 95 "SpeltByFriends$Ledger" "rooms" "I", Cond.fieldLink RX11 126 "SpeltByFriends$Ledger" "foes" "[I", Cond.methodLink RX11 219 yX9_kindOf, Cond.instanceMethod yX9_kindOf, Cond.selects RX9 yX9_kindOf yX9_kindOf, Cond.initialized RX9, Cond.code yX9_kindOf cX9_kindOf 3 (some .int)]
def wsX11_digest_r2 : List Cond := [Cond.fieldLink RX9 89 "SpeltByFriends$Person" "kind" "I", Cond.methodLink RX9 85 yX9_personAt, Cond.instanceMethod yX9_personAt, Cond.selects RX9 yX9_personAt yX9_personAt, Cond.code yX9_personAt cX9_personAt 2 (some (.object "SpeltByFriends$Person")), Cond.fieldLink RX9 39 "SpeltByFriends$Town" "people" "[LSpeltByFriends$Person;", Cond.methodLink RX9 82 yX9_has, Cond.instanceMethod yX9_has, Cond.selects RX9 yX9_has yX9_has, Cond.code yX9_has cX9_has 2 (some .boolean), Cond.fieldLink RX9 56 "SpeltByFriends$Town" "size" "I", Cond.methodLink RX11 115 yX11_at, Cond.static yX11_at, Cond.code yX11_at cX11_at 2 (some .int), Cond.methodLink RX11 98 yX11_roomIn, Cond.static yX11_roomIn, Cond.code yX11_roomIn cX11_roomIn 2 (some .int), Cond.methodLink RX11 239 yX11_shiftOf, Cond.static yX11_shiftOf, Cond.code yX11_shiftOf cX11_shiftOf 1 (some .int), Cond.methodLink RX11 222 yX9_companyIn, Cond.instanceMethod yX9_companyIn, Cond.selects RX9 yX9_companyIn yX9_companyIn, Cond.code yX9_companyIn cX9_companyIn 6 (some .int)]
def wsX11_digest_r3 : List Cond := [Cond.methodLink RX11 137 yX9_canWrite, Cond.instanceMethod yX9_canWrite, Cond.selects RX9 yX9_canWrite yX9_canWrite, Cond.code yX9_canWrite cX9_canWrite 3 (some .boolean), Cond.fieldLink RX9 12 "SpeltByFriends$Town" "ledger" "LSpeltByFriends$Ledger;", Cond.fieldLink RX9 64 "SpeltByFriends$Ledger" "firstHolder" "[I", Cond.fieldLink RX9 75 "SpeltByFriends$Ledger" "lastHolder" "[I", Cond.methodLink RX9 99 yX9_couldWrite, Cond.instanceMethod yX9_couldWrite, Cond.selects RX9 yX9_couldWrite yX9_couldWrite, Cond.code yX9_couldWrite cX9_couldWrite 11 (some .boolean), Cond.fieldLink RX9 103 "SpeltByFriends$Ledger" "foes" "[I", Cond.methodLink RX9 106 ⟨"SpeltByFriends$Person", "isSpelt", "(ZZII)Z"⟩, Cond.sameMethod "SpeltByFriends$Person" "SpeltByFriends$Person" "isSpelt" "(ZZII)Z", Cond.instanceMethod ⟨"SpeltByFriends$Person", "isSpelt", "(ZZII)Z"⟩, Cond.selects RX0 ⟨"SpeltByFriends$Person", "isSpelt", "(ZZII)Z"⟩ yX0_isSpelt, Cond.instanceMethod yX0_isSpelt, Cond.initialized RX0, Cond.code yX0_isSpelt cX0_isSpelt 5 (some .boolean), Cond.code yX6_isSpelt cX6_isSpelt 5 (some .boolean), Cond.selects RX2 ⟨"SpeltByFriends$Person", "isSpelt", "(ZZII)Z"⟩ yX2_isSpelt, Cond.instanceMethod yX2_isSpelt, Cond.initialized RX2, Cond.code yX2_isSpelt cX2_isSpelt 5 (some .boolean)]
def wsX11_digest_r4 : List Cond := [Cond.methodLink RX9 106 yX6_isSpelt, Cond.instanceMethod yX6_isSpelt, Cond.selects RX6 yX6_isSpelt yX6_isSpelt, Cond.initialized RX6, Cond.selects RX8 ⟨"SpeltByFriends$Person", "isSpelt", "(ZZII)Z"⟩ yX8_isSpelt, Cond.instanceMethod yX8_isSpelt, Cond.initialized RX8, Cond.code yX8_isSpelt cX8_isSpelt 5 (some .boolean), Cond.selects RX10 ⟨"SpeltByFriends$Person", "isSpelt", "(ZZII)Z"⟩ yX10_isSpelt, Cond.instanceMethod yX10_isSpelt, Cond.initialized RX10, Cond.code yX10_isSpelt cX10_isSpelt 5 (some .boolean), Cond.methodLink RX11 225 yX9_lettersOfOthers, Cond.instanceMethod yX9_lettersOfOthers, Cond.selects RX9 yX9_lettersOfOthers yX9_lettersOfOthers, Cond.code yX9_lettersOfOthers cX9_lettersOfOthers 4 (some .int), Cond.methodLink RX11 228 yX9_wants, Cond.instanceMethod yX9_wants, Cond.selects RX9 yX9_wants yX9_wants, Cond.code yX9_wants cX9_wants 4 (some .int), Cond.methodLink RX9 113 yX9_canWrite, Cond.methodLink RX11 168 yX1_gather, Cond.instanceMethod yX1_gather, Cond.selects RX1 yX1_gather yX1_gather]
def wsX11_digest_r5 : List Cond := [Cond.initialized RX1, Cond.code yX1_gather cX1_gather 5 none, Cond.fieldLink RX1 18 "SpeltByFriends$Guesses" "person" "I", Cond.fieldLink RX1 22 "SpeltByFriends$Guesses" "many" "I", Cond.fieldLink RX1 25 "SpeltByFriends$Town" "size" "I", Cond.fieldLink RX1 9 "SpeltByFriends$Guesses" "firsts" "[I", Cond.fieldLink RX1 15 "SpeltByFriends$Guesses" "lasts" "[I", Cond.methodLink RX1 30 yX1_agrees, Cond.instanceMethod yX1_agrees, Cond.selects RX1 yX1_agrees yX1_agrees, Cond.code yX1_agrees cX1_agrees 7 (some .boolean), Cond.fieldLink RX1 38 "SpeltByFriends$Town" "ledger" "LSpeltByFriends$Ledger;", Cond.fieldLink RX1 42 "SpeltByFriends$Ledger" "heard" "I", Cond.fieldLink RX1 47 "SpeltByFriends$Ledger" "heardOf" "[I", Cond.fieldLink RX1 54 "SpeltByFriends$Ledger" "heardIn" "[I", Cond.fieldLink RX1 61 "SpeltByFriends$Ledger" "heardYes" "[I", Cond.methodLink RX1 57 yX9_couldWrite, Cond.static yX11_put, Cond.code yX11_put cX11_put 3 none, Cond.methodLink RX11 175 yX1_least, Cond.instanceMethod yX1_least, Cond.selects RX1 yX1_least yX1_least, Cond.code yX1_least cX1_least 1 (some .int), Cond.methodLink RX11 178 yX1_bestCompany]
def wsX11_digest_r6 : List Cond := [Cond.instanceMethod yX1_bestCompany, Cond.selects RX1 yX1_bestCompany yX1_bestCompany, Cond.code yX1_bestCompany cX1_bestCompany 6 (some .int), Cond.methodLink RX1 64 yX9_isCompanyOf, Cond.instanceMethod yX9_isCompanyOf, Cond.selects RX9 yX9_isCompanyOf yX9_isCompanyOf, Cond.code yX9_isCompanyOf cX9_isCompanyOf 3 (some .boolean), Cond.methodLink RX9 78 yX9_isSetOfPeople, Cond.instanceMethod yX9_isSetOfPeople, Cond.selects RX9 yX9_isSetOfPeople yX9_isSetOfPeople, Cond.code yX9_isSetOfPeople cX9_isSetOfPeople 2 (some .boolean), Cond.methodLink RX1 68 yX1_leftAtWorst, Cond.instanceMethod yX1_leftAtWorst, Cond.selects RX1 yX1_leftAtWorst yX1_leftAtWorst, Cond.code yX1_leftAtWorst cX1_leftAtWorst 5 (some .int), Cond.methodLink RX1 72 Lib.Math.max.name, Cond.static Lib.Math.max.name, Cond.initialized "java/lang/Math", Cond.code Lib.Math.max.name Lib.Math.max.code 2 (some .int), Cond.methodLink RX11 216 yX11_count, Cond.instanceMethod yX11_count, Cond.selects RX11 yX11_count yX11_count, Cond.code yX11_count cX11_count 2 (some .int), Cond.fieldLink RX11 105 "SpeltByFriends$Ledger" "went" "I"]
def wsX11_digest_r7 : List Cond := [Cond.fieldLink RX11 123 "SpeltByFriends$Ledger" "sold" "I", Cond.fieldLink RX11 162 "SpeltByFriends$Ledger" "heard" "I", Cond.fieldLink RX11 71 "SpeltByFriends" "townsRead" "I", Cond.fieldLink RX11 140 "SpeltByFriends" "movesDone" "I", Cond.fieldLink RX11 153 "SpeltByFriends" "daysDone" "I", Cond.methodLink RX11 202 yX9_howManyWritten, Cond.instanceMethod yX9_howManyWritten, Cond.selects RX9 yX9_howManyWritten yX9_howManyWritten, Cond.code yX9_howManyWritten cX9_howManyWritten 4 (some .int), Cond.methodLink RX9 110 yX9_companyIn, Cond.methodLink RX11 206 yX9_quarrellingPairs, Cond.instanceMethod yX9_quarrellingPairs, Cond.selects RX9 yX9_quarrellingPairs yX9_quarrellingPairs, Cond.code yX9_quarrellingPairs cX9_quarrellingPairs 3 (some .int), Cond.methodLink RX9 117 yJ6_bitCount_0f7a4, Cond.static yJ6_bitCount_0f7a4, Cond.initialized RJ6, Cond.code yJ6_bitCount_0f7a4 cJ6_bitCount_0f7a4 1 (some .int), Cond.constant RJ6 265 (1431655765), Cond.constant RJ6 266 (858993459), Cond.constant RJ6 267 (252645135)]
def wsX11_digest : List Cond := .code yX11_digest cX11_digest 5 (some .long) :: ((wsX11_digest_r1 ++ (wsX11_digest_r2 ++ (wsX11_digest_r3 ++ (wsX11_digest_r4 ++ (wsX11_digest_r5 ++ (wsX11_digest_r6 ++ wsX11_digest_r7)))))) ++ wsX110 ++ wsX90 ++ wsX10 ++ wsX50 ++ wsX30 ++ wsX00 ++ wsX20 ++ wsX60 ++ wsX80 ++ wsX100)
def wsX12_init : List Cond := .code yX12_init cX12_init 1 none :: ([.methodLink RX12 1 objectInit, .instanceMethod objectInit, .code objectInit ⟨#[0xb1]⟩ 1 none, .arrayClass .int, .fieldLink RX12 7 "SpeltByFriendsModel" "kindOf" "[I", .fieldLink RX12 13 "SpeltByFriendsModel" "holderOf" "[I", .fieldLink RX12 16 "SpeltByFriendsModel" "roomOf" "[I", .fieldLink RX12 19 "SpeltByFriendsModel" "quarrelsOf" "[I", .fieldLink RX12 22 "SpeltByFriendsModel" "heardWho" "[I", .fieldLink RX12 25 "SpeltByFriendsModel" "heardIn" "[I", .fieldLink RX12 28 "SpeltByFriendsModel" "heardSo" "[I", .arrayClass .byte, .fieldLink RX12 31 "SpeltByFriendsModel" "page" "[B", .fieldLink RX12 35 "SpeltByFriendsModel" "writtenIn" "[I", .fieldLink RX12 38 "SpeltByFriendsModel" "saved" "[I", .fieldLink RX12 41 "SpeltByFriendsModel" "keptHolder" "[I", .fieldLink RX12 44 "SpeltByFriendsModel" "keptRoom" "[I", .fieldLink RX12 47 "SpeltByFriendsModel" "keptQuarrels" "[I", .fieldLink RX12 50 "SpeltByFriendsModel" "keptWho" "[I", .fieldLink RX12 53 "SpeltByFriendsModel" "keptIn" "[I", .fieldLink RX12 56 "SpeltByFriendsModel" "keptSo" "[I"] ++ wsX120)
def wsX12_within : List Cond := .code yX12_within cX12_within 3 (some .boolean) :: ([])
def wsX12_isIn : List Cond := .code yX12_isIn cX12_isIn 2 (some .boolean) :: ([])
def wsX12_size : List Cond := .code yX12_size cX12_size 3 (some .int) :: ([])
def wsX12_letter : List Cond := .code yX12_letter cX12_letter 2 (some .int) :: ([.fieldLink RX12 63 "SpeltByFriendsModel" "pageLength" "I", .fieldLink RX12 31 "SpeltByFriendsModel" "page" "[B", .methodLink RX12 59 yX12_within, .static yX12_within, .initialized RX12, .code yX12_within cX12_within 3 (some .boolean)] ++ wsX120)
def wsX12_blank : List Cond := .code yX12_blank cX12_blank 2 (some .int) :: ([.fieldLink RX12 63 "SpeltByFriendsModel" "pageLength" "I"] ++ wsX120)
def wsX12_kindBy : List Cond := .code yX12_kindBy cX12_kindBy 1 (some .int) :: ([])
def wsX12_isGood : List Cond := .code yX12_isGood cX12_isGood 3 (some .boolean) :: ([.fieldLink RX12 31 "SpeltByFriendsModel" "page" "[B", .methodLink RX12 67 yX12_kindBy, .static yX12_kindBy, .initialized RX12, .code yX12_kindBy cX12_kindBy 1 (some .int), .methodLink RX12 59 yX12_within, .static yX12_within, .code yX12_within cX12_within 3 (some .boolean)] ++ wsX120)
def wsX12_isWhole : List Cond := .code yX12_isWhole cX12_isWhole 1 (some .boolean) :: ([.fieldLink RX12 63 "SpeltByFriendsModel" "pageLength" "I"] ++ wsX120)
def wsX12_faultNow : List Cond := .code yX12_faultNow cX12_faultNow 4 (some .int) :: ([.fieldLink RX12 63 "SpeltByFriendsModel" "pageLength" "I", .fieldLink RX12 31 "SpeltByFriendsModel" "page" "[B", .methodLink RX12 71 yX12_isGood, .instanceMethod yX12_isGood, .selects RX12 yX12_isGood yX12_isGood, .initialized RX12, .code yX12_isGood cX12_isGood 3 (some .boolean), .methodLink RX12 67 yX12_kindBy, .static yX12_kindBy, .code yX12_kindBy cX12_kindBy 1 (some .int), .methodLink RX12 59 yX12_within, .static yX12_within, .code yX12_within cX12_within 3 (some .boolean), .methodLink RX12 75 yX12_isWhole, .instanceMethod yX12_isWhole, .selects RX12 yX12_isWhole yX12_isWhole, .code yX12_isWhole cX12_isWhole 1 (some .boolean)] ++ wsX120)
def wsX12_fault : List Cond := .code yX12_fault cX12_fault 1 (some .int) :: ([.methodLink RX12 79 yX12_faultNow, .instanceMethod yX12_faultNow, .selects RX12 yX12_faultNow yX12_faultNow, .initialized RX12, .code yX12_faultNow cX12_faultNow 4 (some .int), .fieldLink RX12 63 "SpeltByFriendsModel" "pageLength" "I", .fieldLink RX12 31 "SpeltByFriendsModel" "page" "[B", .methodLink RX12 71 yX12_isGood, .instanceMethod yX12_isGood, .selects RX12 yX12_isGood yX12_isGood, .code yX12_isGood cX12_isGood 3 (some .boolean), .methodLink RX12 67 yX12_kindBy, .static yX12_kindBy, .code yX12_kindBy cX12_kindBy 1 (some .int), .methodLink RX12 59 yX12_within, .static yX12_within, .code yX12_within cX12_within 3 (some .boolean), .methodLink RX12 75 yX12_isWhole, .instanceMethod yX12_isWhole, .selects RX12 yX12_isWhole yX12_isWhole, .code yX12_isWhole cX12_isWhole 1 (some .boolean)] ++ wsX120)
def wsX12_town_r1 : List Cond := [Cond.fieldLink RX12 63 "SpeltByFriendsModel" "pageLength" "I", Cond.fieldLink RX12 83 "SpeltByFriendsModel" "people" "I", Cond.fieldLink RX12 7 "SpeltByFriendsModel" "kindOf" "[I", Cond.fieldLink RX12 31 "SpeltByFriendsModel" "page" "[B", Cond.fieldLink RX12 13 "SpeltByFriendsModel" "holderOf" "[I", Cond.fieldLink RX12 16 "SpeltByFriendsModel" "roomOf" "[I", Cond.fieldLink RX12 19 "SpeltByFriendsModel" "quarrelsOf" "[I", Cond.fieldLink RX12 86 "SpeltByFriendsModel" "towns" "I", Cond.fieldLink RX12 89 "SpeltByFriendsModel" "went" "I", Cond.fieldLink RX12 92 "SpeltByFriendsModel" "sold" "I", Cond.fieldLink RX12 95 "SpeltByFriendsModel" "heard" "I", Cond.methodLink RX12 75 yX12_isWhole, Cond.instanceMethod yX12_isWhole, Cond.selects RX12 yX12_isWhole yX12_isWhole, Cond.initialized RX12, Cond.code yX12_isWhole cX12_isWhole 1 (some .boolean), Cond.methodLink RX12 79 yX12_faultNow, Cond.instanceMethod yX12_faultNow, Cond.selects RX12 yX12_faultNow yX12_faultNow, Cond.code yX12_faultNow cX12_faultNow 4 (some .int), Cond.methodLink RX12 71 yX12_isGood, Cond.instanceMethod yX12_isGood, Cond.selects RX12 yX12_isGood yX12_isGood, Cond.code yX12_isGood cX12_isGood 3 (some .boolean)]
def wsX12_town_r2 : List Cond := [Cond.methodLink RX12 67 yX12_kindBy, Cond.static yX12_kindBy, Cond.code yX12_kindBy cX12_kindBy 1 (some .int), Cond.methodLink RX12 59 yX12_within, Cond.static yX12_within, Cond.code yX12_within cX12_within 3 (some .boolean)]
def wsX12_town : List Cond := .code yX12_town cX12_town 2 (some .int) :: ((wsX12_town_r1 ++ wsX12_town_r2) ++ wsX120)
def wsX12_isOne : List Cond := .code yX12_isOne cX12_isOne 2 (some .boolean) :: ([.fieldLink RX12 83 "SpeltByFriendsModel" "people" "I", .methodLink RX12 59 yX12_within, .static yX12_within, .initialized RX12, .code yX12_within cX12_within 3 (some .boolean)] ++ wsX120)
def wsX12_isCompany : List Cond := .code yX12_isCompany cX12_isCompany 2 (some .boolean) :: ([.fieldLink RX12 83 "SpeltByFriendsModel" "people" "I", .methodLink RX12 59 yX12_within, .static yX12_within, .initialized RX12, .code yX12_within cX12_within 3 (some .boolean)] ++ wsX120)
def wsX12_isThere : List Cond := .code yX12_isThere cX12_isThere 4 (some .boolean) :: ([.fieldLink RX12 19 "SpeltByFriendsModel" "quarrelsOf" "[I", .methodLink RX12 98 yX12_isIn, .static yX12_isIn, .initialized RX12, .code yX12_isIn cX12_isIn 2 (some .boolean)] ++ wsX120)
def wsX12_isWrittenBy : List Cond := .code yX12_isWrittenBy cX12_isWrittenBy 7 (some .boolean) :: ([.fieldLink RX12 7 "SpeltByFriendsModel" "kindOf" "[I", .methodLink RX12 102 yX12_isThere, .instanceMethod yX12_isThere, .selects RX12 yX12_isThere yX12_isThere, .initialized RX12, .code yX12_isThere cX12_isThere 4 (some .boolean), .fieldLink RX12 19 "SpeltByFriendsModel" "quarrelsOf" "[I", .methodLink RX12 98 yX12_isIn, .static yX12_isIn, .code yX12_isIn cX12_isIn 2 (some .boolean)] ++ wsX120)
def wsX12_isWritten : List Cond := .code yX12_isWritten cX12_isWritten 3 (some .boolean) :: ([.fieldLink RX12 13 "SpeltByFriendsModel" "holderOf" "[I", .methodLink RX12 105 yX12_isWrittenBy, .instanceMethod yX12_isWrittenBy, .selects RX12 yX12_isWrittenBy yX12_isWrittenBy, .initialized RX12, .code yX12_isWrittenBy cX12_isWrittenBy 7 (some .boolean), .fieldLink RX12 7 "SpeltByFriendsModel" "kindOf" "[I", .methodLink RX12 102 yX12_isThere, .instanceMethod yX12_isThere, .selects RX12 yX12_isThere yX12_isThere, .code yX12_isThere cX12_isThere 4 (some .boolean), .fieldLink RX12 19 "SpeltByFriendsModel" "quarrelsOf" "[I", .methodLink RX12 98 yX12_isIn, .static yX12_isIn, .code yX12_isIn cX12_isIn 2 (some .boolean)] ++ wsX120)
def wsX12_companyOf : List Cond := .code yX12_companyOf cX12_companyOf 4 (some .int) :: ([.fieldLink RX12 83 "SpeltByFriendsModel" "people" "I", .fieldLink RX12 16 "SpeltByFriendsModel" "roomOf" "[I"] ++ wsX120)
def wsX12_isWrittenNow_r1 : List Cond := [Cond.methodLink RX12 109 yX12_companyOf, Cond.instanceMethod yX12_companyOf, Cond.selects RX12 yX12_companyOf yX12_companyOf, Cond.initialized RX12, Cond.code yX12_companyOf cX12_companyOf 4 (some .int), Cond.fieldLink RX12 83 "SpeltByFriendsModel" "people" "I", Cond.fieldLink RX12 16 "SpeltByFriendsModel" "roomOf" "[I", Cond.methodLink RX12 112 yX12_isWritten, Cond.instanceMethod yX12_isWritten, Cond.selects RX12 yX12_isWritten yX12_isWritten, Cond.code yX12_isWritten cX12_isWritten 3 (some .boolean), Cond.fieldLink RX12 13 "SpeltByFriendsModel" "holderOf" "[I", Cond.methodLink RX12 105 yX12_isWrittenBy, Cond.instanceMethod yX12_isWrittenBy, Cond.selects RX12 yX12_isWrittenBy yX12_isWrittenBy, Cond.code yX12_isWrittenBy cX12_isWrittenBy 7 (some .boolean), Cond.fieldLink RX12 7 "SpeltByFriendsModel" "kindOf" "[I", Cond.methodLink RX12 102 yX12_isThere, Cond.instanceMethod yX12_isThere, Cond.selects RX12 yX12_isThere yX12_isThere, Cond.code yX12_isThere cX12_isThere 4 (some .boolean), Cond.fieldLink RX12 19 "SpeltByFriendsModel" "quarrelsOf" "[I", Cond.methodLink RX12 98 yX12_isIn, Cond.static yX12_isIn]
def wsX12_isWrittenNow_r2 : List Cond := [Cond.code yX12_isIn cX12_isIn 2 (some .boolean)]
def wsX12_isWrittenNow : List Cond := .code yX12_isWrittenNow cX12_isWrittenNow 2 (some .boolean) :: ((wsX12_isWrittenNow_r1 ++ wsX12_isWrittenNow_r2) ++ wsX120)
def wsX12_lettersOf : List Cond := .code yX12_lettersOf cX12_lettersOf 4 (some .int) :: ([.fieldLink RX12 83 "SpeltByFriendsModel" "people" "I", .fieldLink RX12 13 "SpeltByFriendsModel" "holderOf" "[I"] ++ wsX120)
def wsX12_wantsOf : List Cond := .code yX12_wantsOf cX12_wantsOf 4 (some .int) :: ([.fieldLink RX12 83 "SpeltByFriendsModel" "people" "I", .methodLink RX12 98 yX12_isIn, .static yX12_isIn, .initialized RX12, .code yX12_isIn cX12_isIn 2 (some .boolean), .methodLink RX12 112 yX12_isWritten, .instanceMethod yX12_isWritten, .selects RX12 yX12_isWritten yX12_isWritten, .code yX12_isWritten cX12_isWritten 3 (some .boolean), .fieldLink RX12 13 "SpeltByFriendsModel" "holderOf" "[I", .methodLink RX12 105 yX12_isWrittenBy, .instanceMethod yX12_isWrittenBy, .selects RX12 yX12_isWrittenBy yX12_isWrittenBy, .code yX12_isWrittenBy cX12_isWrittenBy 7 (some .boolean), .fieldLink RX12 7 "SpeltByFriendsModel" "kindOf" "[I", .methodLink RX12 102 yX12_isThere, .instanceMethod yX12_isThere, .selects RX12 yX12_isThere yX12_isThere, .code yX12_isThere cX12_isThere 4 (some .boolean), .fieldLink RX12 19 "SpeltByFriendsModel" "quarrelsOf" "[I"] ++ wsX120)
def wsX12_oneNow_r1 : List Cond := [Cond.fieldLink RX12 7 "SpeltByFriendsModel" "kindOf" "[I", Cond.fieldLink RX12 13 "SpeltByFriendsModel" "holderOf" "[I", Cond.fieldLink RX12 16 "SpeltByFriendsModel" "roomOf" "[I", Cond.fieldLink RX12 19 "SpeltByFriendsModel" "quarrelsOf" "[I", Cond.methodLink RX12 115 yX12_isWrittenNow, Cond.instanceMethod yX12_isWrittenNow, Cond.selects RX12 yX12_isWrittenNow yX12_isWrittenNow, Cond.initialized RX12, Cond.code yX12_isWrittenNow cX12_isWrittenNow 2 (some .boolean), Cond.methodLink RX12 109 yX12_companyOf, Cond.instanceMethod yX12_companyOf, Cond.selects RX12 yX12_companyOf yX12_companyOf, Cond.code yX12_companyOf cX12_companyOf 4 (some .int), Cond.fieldLink RX12 83 "SpeltByFriendsModel" "people" "I", Cond.methodLink RX12 112 yX12_isWritten, Cond.instanceMethod yX12_isWritten, Cond.selects RX12 yX12_isWritten yX12_isWritten, Cond.code yX12_isWritten cX12_isWritten 3 (some .boolean), Cond.methodLink RX12 105 yX12_isWrittenBy, Cond.instanceMethod yX12_isWrittenBy, Cond.selects RX12 yX12_isWrittenBy yX12_isWrittenBy, Cond.code yX12_isWrittenBy cX12_isWrittenBy 7 (some .boolean), Cond.methodLink RX12 102 yX12_isThere, Cond.instanceMethod yX12_isThere]
def wsX12_oneNow_r2 : List Cond := [Cond.selects RX12 yX12_isThere yX12_isThere, Cond.code yX12_isThere cX12_isThere 4 (some .boolean), Cond.methodLink RX12 98 yX12_isIn, Cond.static yX12_isIn, Cond.code yX12_isIn cX12_isIn 2 (some .boolean), Cond.methodLink RX12 118 yX12_lettersOf, Cond.instanceMethod yX12_lettersOf, Cond.selects RX12 yX12_lettersOf yX12_lettersOf, Cond.code yX12_lettersOf cX12_lettersOf 4 (some .int), Cond.methodLink RX12 121 yX12_wantsOf, Cond.instanceMethod yX12_wantsOf, Cond.selects RX12 yX12_wantsOf yX12_wantsOf, Cond.code yX12_wantsOf cX12_wantsOf 4 (some .int)]
def wsX12_oneNow : List Cond := .code yX12_oneNow cX12_oneNow 3 (some .int) :: ((wsX12_oneNow_r1 ++ wsX12_oneNow_r2) ++ wsX120)
def wsX12_about_r1 : List Cond := [Cond.methodLink RX12 124 yX12_isOne, Cond.instanceMethod yX12_isOne, Cond.selects RX12 yX12_isOne yX12_isOne, Cond.initialized RX12, Cond.code yX12_isOne cX12_isOne 2 (some .boolean), Cond.fieldLink RX12 83 "SpeltByFriendsModel" "people" "I", Cond.methodLink RX12 59 yX12_within, Cond.static yX12_within, Cond.code yX12_within cX12_within 3 (some .boolean), Cond.methodLink RX12 127 yX12_oneNow, Cond.instanceMethod yX12_oneNow, Cond.selects RX12 yX12_oneNow yX12_oneNow, Cond.code yX12_oneNow cX12_oneNow 3 (some .int), Cond.fieldLink RX12 7 "SpeltByFriendsModel" "kindOf" "[I", Cond.fieldLink RX12 13 "SpeltByFriendsModel" "holderOf" "[I", Cond.fieldLink RX12 16 "SpeltByFriendsModel" "roomOf" "[I", Cond.fieldLink RX12 19 "SpeltByFriendsModel" "quarrelsOf" "[I", Cond.methodLink RX12 115 yX12_isWrittenNow, Cond.instanceMethod yX12_isWrittenNow, Cond.selects RX12 yX12_isWrittenNow yX12_isWrittenNow, Cond.code yX12_isWrittenNow cX12_isWrittenNow 2 (some .boolean), Cond.methodLink RX12 109 yX12_companyOf, Cond.instanceMethod yX12_companyOf, Cond.selects RX12 yX12_companyOf yX12_companyOf]
def wsX12_about_r2 : List Cond := [Cond.code yX12_companyOf cX12_companyOf 4 (some .int), Cond.methodLink RX12 112 yX12_isWritten, Cond.instanceMethod yX12_isWritten, Cond.selects RX12 yX12_isWritten yX12_isWritten, Cond.code yX12_isWritten cX12_isWritten 3 (some .boolean), Cond.methodLink RX12 105 yX12_isWrittenBy, Cond.instanceMethod yX12_isWrittenBy, Cond.selects RX12 yX12_isWrittenBy yX12_isWrittenBy, Cond.code yX12_isWrittenBy cX12_isWrittenBy 7 (some .boolean), Cond.methodLink RX12 102 yX12_isThere, Cond.instanceMethod yX12_isThere, Cond.selects RX12 yX12_isThere yX12_isThere, Cond.code yX12_isThere cX12_isThere 4 (some .boolean), Cond.methodLink RX12 98 yX12_isIn, Cond.static yX12_isIn, Cond.code yX12_isIn cX12_isIn 2 (some .boolean), Cond.methodLink RX12 118 yX12_lettersOf, Cond.instanceMethod yX12_lettersOf, Cond.selects RX12 yX12_lettersOf yX12_lettersOf, Cond.code yX12_lettersOf cX12_lettersOf 4 (some .int), Cond.methodLink RX12 121 yX12_wantsOf, Cond.instanceMethod yX12_wantsOf, Cond.selects RX12 yX12_wantsOf yX12_wantsOf, Cond.code yX12_wantsOf cX12_wantsOf 4 (some .int)]
def wsX12_about : List Cond := .code yX12_about cX12_about 3 (some .int) :: ((wsX12_about_r1 ++ wsX12_about_r2) ++ wsX120)
def wsX12_as : List Cond := .code yX12_as cX12_as 4 (some .int) :: ([.fieldLink RX12 7 "SpeltByFriendsModel" "kindOf" "[I", .methodLink RX12 124 yX12_isOne, .instanceMethod yX12_isOne, .selects RX12 yX12_isOne yX12_isOne, .initialized RX12, .code yX12_isOne cX12_isOne 2 (some .boolean), .fieldLink RX12 83 "SpeltByFriendsModel" "people" "I", .methodLink RX12 59 yX12_within, .static yX12_within, .code yX12_within cX12_within 3 (some .boolean)] ++ wsX120)
def wsX12_go : List Cond := .code yX12_go cX12_go 4 (some .int) :: ([.fieldLink RX12 16 "SpeltByFriendsModel" "roomOf" "[I", .fieldLink RX12 89 "SpeltByFriendsModel" "went" "I", .methodLink RX12 124 yX12_isOne, .instanceMethod yX12_isOne, .selects RX12 yX12_isOne yX12_isOne, .initialized RX12, .code yX12_isOne cX12_isOne 2 (some .boolean), .fieldLink RX12 83 "SpeltByFriendsModel" "people" "I", .methodLink RX12 59 yX12_within, .static yX12_within, .code yX12_within cX12_within 3 (some .boolean)] ++ wsX120)
def wsX12_sell : List Cond := .code yX12_sell cX12_sell 5 (some .int) :: ([.fieldLink RX12 13 "SpeltByFriendsModel" "holderOf" "[I", .fieldLink RX12 92 "SpeltByFriendsModel" "sold" "I", .methodLink RX12 124 yX12_isOne, .instanceMethod yX12_isOne, .selects RX12 yX12_isOne yX12_isOne, .initialized RX12, .code yX12_isOne cX12_isOne 2 (some .boolean), .fieldLink RX12 83 "SpeltByFriendsModel" "people" "I", .methodLink RX12 59 yX12_within, .static yX12_within, .code yX12_within cX12_within 3 (some .boolean)] ++ wsX120)
def wsX12_with : List Cond := .code yX12_with cX12_with 3 (some .int) :: ([])
def wsX12_quarrel : List Cond := .code yX12_quarrel cX12_quarrel 5 (some .int) :: ([.fieldLink RX12 19 "SpeltByFriendsModel" "quarrelsOf" "[I", .methodLink RX12 124 yX12_isOne, .instanceMethod yX12_isOne, .selects RX12 yX12_isOne yX12_isOne, .initialized RX12, .code yX12_isOne cX12_isOne 2 (some .boolean), .fieldLink RX12 83 "SpeltByFriendsModel" "people" "I", .methodLink RX12 59 yX12_within, .static yX12_within, .code yX12_within cX12_within 3 (some .boolean), .methodLink RX12 131 yX12_with, .static yX12_with, .code yX12_with cX12_with 3 (some .int)] ++ wsX120)
def wsX12_written_r1 : List Cond := [Cond.methodLink RX12 124 yX12_isOne, Cond.instanceMethod yX12_isOne, Cond.selects RX12 yX12_isOne yX12_isOne, Cond.initialized RX12, Cond.code yX12_isOne cX12_isOne 2 (some .boolean), Cond.fieldLink RX12 83 "SpeltByFriendsModel" "people" "I", Cond.methodLink RX12 59 yX12_within, Cond.static yX12_within, Cond.code yX12_within cX12_within 3 (some .boolean), Cond.methodLink RX12 135 yX12_isCompany, Cond.instanceMethod yX12_isCompany, Cond.selects RX12 yX12_isCompany yX12_isCompany, Cond.code yX12_isCompany cX12_isCompany 2 (some .boolean), Cond.methodLink RX12 98 yX12_isIn, Cond.static yX12_isIn, Cond.code yX12_isIn cX12_isIn 2 (some .boolean), Cond.methodLink RX12 112 yX12_isWritten, Cond.instanceMethod yX12_isWritten, Cond.selects RX12 yX12_isWritten yX12_isWritten, Cond.code yX12_isWritten cX12_isWritten 3 (some .boolean), Cond.fieldLink RX12 13 "SpeltByFriendsModel" "holderOf" "[I", Cond.methodLink RX12 105 yX12_isWrittenBy, Cond.instanceMethod yX12_isWrittenBy, Cond.selects RX12 yX12_isWrittenBy yX12_isWrittenBy]
def wsX12_written_r2 : List Cond := [Cond.code yX12_isWrittenBy cX12_isWrittenBy 7 (some .boolean), Cond.fieldLink RX12 7 "SpeltByFriendsModel" "kindOf" "[I", Cond.methodLink RX12 102 yX12_isThere, Cond.instanceMethod yX12_isThere, Cond.selects RX12 yX12_isThere yX12_isThere, Cond.code yX12_isThere cX12_isThere 4 (some .boolean), Cond.fieldLink RX12 19 "SpeltByFriendsModel" "quarrelsOf" "[I"]
def wsX12_written : List Cond := .code yX12_written cX12_written 3 (some .int) :: ((wsX12_written_r1 ++ wsX12_written_r2) ++ wsX120)
def wsX12_roomBy : List Cond := .code yX12_roomBy cX12_roomBy 3 (some .int) :: ([.fieldLink RX12 83 "SpeltByFriendsModel" "people" "I"] ++ wsX120)
def wsX12_movesBy : List Cond := .code yX12_movesBy cX12_movesBy 4 (some .int) :: ([.fieldLink RX12 83 "SpeltByFriendsModel" "people" "I", .fieldLink RX12 16 "SpeltByFriendsModel" "roomOf" "[I", .methodLink RX12 138 yX12_roomBy, .instanceMethod yX12_roomBy, .selects RX12 yX12_roomBy yX12_roomBy, .initialized RX12, .code yX12_roomBy cX12_roomBy 3 (some .int)] ++ wsX120)
def wsX12_isWrittenIf : List Cond := .code yX12_isWrittenIf cX12_isWrittenIf 5 (some .boolean) :: ([.fieldLink RX12 83 "SpeltByFriendsModel" "people" "I", .methodLink RX12 138 yX12_roomBy, .instanceMethod yX12_roomBy, .selects RX12 yX12_roomBy yX12_roomBy, .initialized RX12, .code yX12_roomBy cX12_roomBy 3 (some .int), .methodLink RX12 112 yX12_isWritten, .instanceMethod yX12_isWritten, .selects RX12 yX12_isWritten yX12_isWritten, .code yX12_isWritten cX12_isWritten 3 (some .boolean), .fieldLink RX12 13 "SpeltByFriendsModel" "holderOf" "[I", .methodLink RX12 105 yX12_isWrittenBy, .instanceMethod yX12_isWrittenBy, .selects RX12 yX12_isWrittenBy yX12_isWrittenBy, .code yX12_isWrittenBy cX12_isWrittenBy 7 (some .boolean), .fieldLink RX12 7 "SpeltByFriendsModel" "kindOf" "[I", .methodLink RX12 102 yX12_isThere, .instanceMethod yX12_isThere, .selects RX12 yX12_isThere yX12_isThere, .code yX12_isThere cX12_isThere 4 (some .boolean), .fieldLink RX12 19 "SpeltByFriendsModel" "quarrelsOf" "[I", .methodLink RX12 98 yX12_isIn, .static yX12_isIn, .code yX12_isIn cX12_isIn 2 (some .boolean)] ++ wsX120)
def wsX12_movesNow_r1 : List Cond := [Cond.constant RX12 141 (268435456), Cond.fieldLink RX12 83 "SpeltByFriendsModel" "people" "I", Cond.methodLink RX12 142 yX12_movesBy, Cond.instanceMethod yX12_movesBy, Cond.selects RX12 yX12_movesBy yX12_movesBy, Cond.initialized RX12, Cond.code yX12_movesBy cX12_movesBy 4 (some .int), Cond.fieldLink RX12 16 "SpeltByFriendsModel" "roomOf" "[I", Cond.methodLink RX12 138 yX12_roomBy, Cond.instanceMethod yX12_roomBy, Cond.selects RX12 yX12_roomBy yX12_roomBy, Cond.code yX12_roomBy cX12_roomBy 3 (some .int), Cond.methodLink RX12 145 yX12_isWrittenIf, Cond.instanceMethod yX12_isWrittenIf, Cond.selects RX12 yX12_isWrittenIf yX12_isWrittenIf, Cond.code yX12_isWrittenIf cX12_isWrittenIf 5 (some .boolean), Cond.methodLink RX12 112 yX12_isWritten, Cond.instanceMethod yX12_isWritten, Cond.selects RX12 yX12_isWritten yX12_isWritten, Cond.code yX12_isWritten cX12_isWritten 3 (some .boolean), Cond.fieldLink RX12 13 "SpeltByFriendsModel" "holderOf" "[I", Cond.methodLink RX12 105 yX12_isWrittenBy, Cond.instanceMethod yX12_isWrittenBy, Cond.selects RX12 yX12_isWrittenBy yX12_isWrittenBy]
def wsX12_movesNow_r2 : List Cond := [Cond.code yX12_isWrittenBy cX12_isWrittenBy 7 (some .boolean), Cond.fieldLink RX12 7 "SpeltByFriendsModel" "kindOf" "[I", Cond.methodLink RX12 102 yX12_isThere, Cond.instanceMethod yX12_isThere, Cond.selects RX12 yX12_isThere yX12_isThere, Cond.code yX12_isThere cX12_isThere 4 (some .boolean), Cond.fieldLink RX12 19 "SpeltByFriendsModel" "quarrelsOf" "[I", Cond.methodLink RX12 98 yX12_isIn, Cond.static yX12_isIn, Cond.code yX12_isIn cX12_isIn 2 (some .boolean), Cond.methodLink RX12 124 yX12_isOne, Cond.instanceMethod yX12_isOne, Cond.selects RX12 yX12_isOne yX12_isOne, Cond.code yX12_isOne cX12_isOne 2 (some .boolean), Cond.methodLink RX12 59 yX12_within, Cond.static yX12_within, Cond.code yX12_within cX12_within 3 (some .boolean)]
def wsX12_movesNow : List Cond := .code yX12_movesNow cX12_movesNow 7 (some .int) :: ((wsX12_movesNow_r1 ++ wsX12_movesNow_r2) ++ wsX120)
def wsX12_moves_r1 : List Cond := [Cond.fieldLink RX12 148 "SpeltByFriendsModel" "moveAsks" "I", Cond.methodLink RX12 124 yX12_isOne, Cond.instanceMethod yX12_isOne, Cond.selects RX12 yX12_isOne yX12_isOne, Cond.initialized RX12, Cond.code yX12_isOne cX12_isOne 2 (some .boolean), Cond.fieldLink RX12 83 "SpeltByFriendsModel" "people" "I", Cond.methodLink RX12 59 yX12_within, Cond.static yX12_within, Cond.code yX12_within cX12_within 3 (some .boolean), Cond.methodLink RX12 151 yX12_movesNow, Cond.instanceMethod yX12_movesNow, Cond.selects RX12 yX12_movesNow yX12_movesNow, Cond.code yX12_movesNow cX12_movesNow 7 (some .int), Cond.constant RX12 141 (268435456), Cond.methodLink RX12 142 yX12_movesBy, Cond.instanceMethod yX12_movesBy, Cond.selects RX12 yX12_movesBy yX12_movesBy, Cond.code yX12_movesBy cX12_movesBy 4 (some .int), Cond.fieldLink RX12 16 "SpeltByFriendsModel" "roomOf" "[I", Cond.methodLink RX12 138 yX12_roomBy, Cond.instanceMethod yX12_roomBy, Cond.selects RX12 yX12_roomBy yX12_roomBy, Cond.code yX12_roomBy cX12_roomBy 3 (some .int)]
def wsX12_moves_r2 : List Cond := [Cond.methodLink RX12 145 yX12_isWrittenIf, Cond.instanceMethod yX12_isWrittenIf, Cond.selects RX12 yX12_isWrittenIf yX12_isWrittenIf, Cond.code yX12_isWrittenIf cX12_isWrittenIf 5 (some .boolean), Cond.methodLink RX12 112 yX12_isWritten, Cond.instanceMethod yX12_isWritten, Cond.selects RX12 yX12_isWritten yX12_isWritten, Cond.code yX12_isWritten cX12_isWritten 3 (some .boolean), Cond.fieldLink RX12 13 "SpeltByFriendsModel" "holderOf" "[I", Cond.methodLink RX12 105 yX12_isWrittenBy, Cond.instanceMethod yX12_isWrittenBy, Cond.selects RX12 yX12_isWrittenBy yX12_isWrittenBy, Cond.code yX12_isWrittenBy cX12_isWrittenBy 7 (some .boolean), Cond.fieldLink RX12 7 "SpeltByFriendsModel" "kindOf" "[I", Cond.methodLink RX12 102 yX12_isThere, Cond.instanceMethod yX12_isThere, Cond.selects RX12 yX12_isThere yX12_isThere, Cond.code yX12_isThere cX12_isThere 4 (some .boolean), Cond.fieldLink RX12 19 "SpeltByFriendsModel" "quarrelsOf" "[I", Cond.methodLink RX12 98 yX12_isIn, Cond.static yX12_isIn, Cond.code yX12_isIn cX12_isIn 2 (some .boolean)]
def wsX12_moves : List Cond := .code yX12_moves cX12_moves 3 (some .int) :: ((wsX12_moves_r1 ++ wsX12_moves_r2) ++ wsX120)
def wsX12_layWritten : List Cond := .code yX12_layWritten cX12_layWritten 3 none :: ([.fieldLink RX12 83 "SpeltByFriendsModel" "people" "I", .fieldLink RX12 35 "SpeltByFriendsModel" "writtenIn" "[I", .methodLink RX12 98 yX12_isIn, .static yX12_isIn, .initialized RX12, .code yX12_isIn cX12_isIn 2 (some .boolean), .methodLink RX12 112 yX12_isWritten, .instanceMethod yX12_isWritten, .selects RX12 yX12_isWritten yX12_isWritten, .code yX12_isWritten cX12_isWritten 3 (some .boolean), .fieldLink RX12 13 "SpeltByFriendsModel" "holderOf" "[I", .methodLink RX12 105 yX12_isWrittenBy, .instanceMethod yX12_isWrittenBy, .selects RX12 yX12_isWrittenBy yX12_isWrittenBy, .code yX12_isWrittenBy cX12_isWrittenBy 7 (some .boolean), .fieldLink RX12 7 "SpeltByFriendsModel" "kindOf" "[I", .methodLink RX12 102 yX12_isThere, .instanceMethod yX12_isThere, .selects RX12 yX12_isThere yX12_isThere, .code yX12_isThere cX12_isThere 4 (some .boolean), .fieldLink RX12 19 "SpeltByFriendsModel" "quarrelsOf" "[I"] ++ wsX120)
def wsX12_writtenBy : List Cond := .code yX12_writtenBy cX12_writtenBy 7 (some .int) :: ([.fieldLink RX12 83 "SpeltByFriendsModel" "people" "I", .fieldLink RX12 35 "SpeltByFriendsModel" "writtenIn" "[I"] ++ wsX120)
def wsX12_daysNow_r1 : List Cond := [Cond.methodLink RX12 154 yX12_layWritten, Cond.instanceMethod yX12_layWritten, Cond.selects RX12 yX12_layWritten yX12_layWritten, Cond.initialized RX12, Cond.code yX12_layWritten cX12_layWritten 3 none, Cond.fieldLink RX12 83 "SpeltByFriendsModel" "people" "I", Cond.fieldLink RX12 35 "SpeltByFriendsModel" "writtenIn" "[I", Cond.methodLink RX12 98 yX12_isIn, Cond.static yX12_isIn, Cond.code yX12_isIn cX12_isIn 2 (some .boolean), Cond.methodLink RX12 112 yX12_isWritten, Cond.instanceMethod yX12_isWritten, Cond.selects RX12 yX12_isWritten yX12_isWritten, Cond.code yX12_isWritten cX12_isWritten 3 (some .boolean), Cond.fieldLink RX12 13 "SpeltByFriendsModel" "holderOf" "[I", Cond.methodLink RX12 105 yX12_isWrittenBy, Cond.instanceMethod yX12_isWrittenBy, Cond.selects RX12 yX12_isWrittenBy yX12_isWrittenBy, Cond.code yX12_isWrittenBy cX12_isWrittenBy 7 (some .boolean), Cond.fieldLink RX12 7 "SpeltByFriendsModel" "kindOf" "[I", Cond.methodLink RX12 102 yX12_isThere, Cond.instanceMethod yX12_isThere, Cond.selects RX12 yX12_isThere yX12_isThere, Cond.code yX12_isThere cX12_isThere 4 (some .boolean)]
def wsX12_daysNow_r2 : List Cond := [Cond.fieldLink RX12 19 "SpeltByFriendsModel" "quarrelsOf" "[I", Cond.methodLink RX12 157 yX12_writtenBy, Cond.instanceMethod yX12_writtenBy, Cond.selects RX12 yX12_writtenBy yX12_writtenBy, Cond.code yX12_writtenBy cX12_writtenBy 7 (some .int)]
def wsX12_daysNow : List Cond := .code yX12_daysNow cX12_daysNow 5 (some .int) :: ((wsX12_daysNow_r1 ++ wsX12_daysNow_r2) ++ wsX120)
def wsX12_days_r1 : List Cond := [Cond.fieldLink RX12 83 "SpeltByFriendsModel" "people" "I", Cond.fieldLink RX12 160 "SpeltByFriendsModel" "dayAsks" "I", Cond.methodLink RX12 135 yX12_isCompany, Cond.instanceMethod yX12_isCompany, Cond.selects RX12 yX12_isCompany yX12_isCompany, Cond.initialized RX12, Cond.code yX12_isCompany cX12_isCompany 2 (some .boolean), Cond.methodLink RX12 59 yX12_within, Cond.static yX12_within, Cond.code yX12_within cX12_within 3 (some .boolean), Cond.methodLink RX12 163 yX12_daysNow, Cond.instanceMethod yX12_daysNow, Cond.selects RX12 yX12_daysNow yX12_daysNow, Cond.code yX12_daysNow cX12_daysNow 5 (some .int), Cond.methodLink RX12 154 yX12_layWritten, Cond.instanceMethod yX12_layWritten, Cond.selects RX12 yX12_layWritten yX12_layWritten, Cond.code yX12_layWritten cX12_layWritten 3 none, Cond.fieldLink RX12 35 "SpeltByFriendsModel" "writtenIn" "[I", Cond.methodLink RX12 98 yX12_isIn, Cond.static yX12_isIn, Cond.code yX12_isIn cX12_isIn 2 (some .boolean), Cond.methodLink RX12 112 yX12_isWritten, Cond.instanceMethod yX12_isWritten]
def wsX12_days_r2 : List Cond := [Cond.selects RX12 yX12_isWritten yX12_isWritten, Cond.code yX12_isWritten cX12_isWritten 3 (some .boolean), Cond.fieldLink RX12 13 "SpeltByFriendsModel" "holderOf" "[I", Cond.methodLink RX12 105 yX12_isWrittenBy, Cond.instanceMethod yX12_isWrittenBy, Cond.selects RX12 yX12_isWrittenBy yX12_isWrittenBy, Cond.code yX12_isWrittenBy cX12_isWrittenBy 7 (some .boolean), Cond.fieldLink RX12 7 "SpeltByFriendsModel" "kindOf" "[I", Cond.methodLink RX12 102 yX12_isThere, Cond.instanceMethod yX12_isThere, Cond.selects RX12 yX12_isThere yX12_isThere, Cond.code yX12_isThere cX12_isThere 4 (some .boolean), Cond.fieldLink RX12 19 "SpeltByFriendsModel" "quarrelsOf" "[I", Cond.methodLink RX12 157 yX12_writtenBy, Cond.instanceMethod yX12_writtenBy, Cond.selects RX12 yX12_writtenBy yX12_writtenBy, Cond.code yX12_writtenBy cX12_writtenBy 7 (some .int)]
def wsX12_days : List Cond := .code yX12_days cX12_days 3 (some .int) :: ((wsX12_days_r1 ++ wsX12_days_r2) ++ wsX120)
def wsX12_hear : List Cond := .code yX12_hear cX12_hear 4 (some .int) :: ([.fieldLink RX12 95 "SpeltByFriendsModel" "heard" "I", .fieldLink RX12 22 "SpeltByFriendsModel" "heardWho" "[I", .fieldLink RX12 25 "SpeltByFriendsModel" "heardIn" "[I", .fieldLink RX12 28 "SpeltByFriendsModel" "heardSo" "[I", .methodLink RX12 124 yX12_isOne, .instanceMethod yX12_isOne, .selects RX12 yX12_isOne yX12_isOne, .initialized RX12, .code yX12_isOne cX12_isOne 2 (some .boolean), .fieldLink RX12 83 "SpeltByFriendsModel" "people" "I", .methodLink RX12 59 yX12_within, .static yX12_within, .code yX12_within cX12_within 3 (some .boolean), .methodLink RX12 135 yX12_isCompany, .instanceMethod yX12_isCompany, .selects RX12 yX12_isCompany yX12_isCompany, .code yX12_isCompany cX12_isCompany 2 (some .boolean), .methodLink RX12 98 yX12_isIn, .static yX12_isIn, .code yX12_isIn cX12_isIn 2 (some .boolean)] ++ wsX120)
def wsX12_forget : List Cond := .code yX12_forget cX12_forget 2 (some .int) :: ([.fieldLink RX12 95 "SpeltByFriendsModel" "heard" "I"] ++ wsX120)
def wsX12_couldHold : List Cond := .code yX12_couldHold cX12_couldHold 6 (some .boolean) :: ([.fieldLink RX12 95 "SpeltByFriendsModel" "heard" "I", .fieldLink RX12 22 "SpeltByFriendsModel" "heardWho" "[I", .fieldLink RX12 25 "SpeltByFriendsModel" "heardIn" "[I", .fieldLink RX12 28 "SpeltByFriendsModel" "heardSo" "[I", .methodLink RX12 105 yX12_isWrittenBy, .instanceMethod yX12_isWrittenBy, .selects RX12 yX12_isWrittenBy yX12_isWrittenBy, .initialized RX12, .code yX12_isWrittenBy cX12_isWrittenBy 7 (some .boolean), .fieldLink RX12 7 "SpeltByFriendsModel" "kindOf" "[I", .methodLink RX12 102 yX12_isThere, .instanceMethod yX12_isThere, .selects RX12 yX12_isThere yX12_isThere, .code yX12_isThere cX12_isThere 4 (some .boolean), .fieldLink RX12 19 "SpeltByFriendsModel" "quarrelsOf" "[I", .methodLink RX12 98 yX12_isIn, .static yX12_isIn, .code yX12_isIn cX12_isIn 2 (some .boolean)] ++ wsX120)
def wsX12_holdersNow : List Cond := .code yX12_holdersNow cX12_holdersNow 7 (some .int) :: ([.fieldLink RX12 83 "SpeltByFriendsModel" "people" "I", .methodLink RX12 166 yX12_couldHold, .instanceMethod yX12_couldHold, .selects RX12 yX12_couldHold yX12_couldHold, .initialized RX12, .code yX12_couldHold cX12_couldHold 6 (some .boolean), .fieldLink RX12 95 "SpeltByFriendsModel" "heard" "I", .fieldLink RX12 22 "SpeltByFriendsModel" "heardWho" "[I", .fieldLink RX12 25 "SpeltByFriendsModel" "heardIn" "[I", .fieldLink RX12 28 "SpeltByFriendsModel" "heardSo" "[I", .methodLink RX12 105 yX12_isWrittenBy, .instanceMethod yX12_isWrittenBy, .selects RX12 yX12_isWrittenBy yX12_isWrittenBy, .code yX12_isWrittenBy cX12_isWrittenBy 7 (some .boolean), .fieldLink RX12 7 "SpeltByFriendsModel" "kindOf" "[I", .methodLink RX12 102 yX12_isThere, .instanceMethod yX12_isThere, .selects RX12 yX12_isThere yX12_isThere, .code yX12_isThere cX12_isThere 4 (some .boolean), .fieldLink RX12 19 "SpeltByFriendsModel" "quarrelsOf" "[I", .methodLink RX12 98 yX12_isIn, .static yX12_isIn, .code yX12_isIn cX12_isIn 2 (some .boolean)] ++ wsX120)
def wsX12_holders_r1 : List Cond := [Cond.methodLink RX12 124 yX12_isOne, Cond.instanceMethod yX12_isOne, Cond.selects RX12 yX12_isOne yX12_isOne, Cond.initialized RX12, Cond.code yX12_isOne cX12_isOne 2 (some .boolean), Cond.fieldLink RX12 83 "SpeltByFriendsModel" "people" "I", Cond.methodLink RX12 59 yX12_within, Cond.static yX12_within, Cond.code yX12_within cX12_within 3 (some .boolean), Cond.methodLink RX12 169 yX12_holdersNow, Cond.instanceMethod yX12_holdersNow, Cond.selects RX12 yX12_holdersNow yX12_holdersNow, Cond.code yX12_holdersNow cX12_holdersNow 7 (some .int), Cond.methodLink RX12 166 yX12_couldHold, Cond.instanceMethod yX12_couldHold, Cond.selects RX12 yX12_couldHold yX12_couldHold, Cond.code yX12_couldHold cX12_couldHold 6 (some .boolean), Cond.fieldLink RX12 95 "SpeltByFriendsModel" "heard" "I", Cond.fieldLink RX12 22 "SpeltByFriendsModel" "heardWho" "[I", Cond.fieldLink RX12 25 "SpeltByFriendsModel" "heardIn" "[I", Cond.fieldLink RX12 28 "SpeltByFriendsModel" "heardSo" "[I", Cond.methodLink RX12 105 yX12_isWrittenBy, Cond.instanceMethod yX12_isWrittenBy, Cond.selects RX12 yX12_isWrittenBy yX12_isWrittenBy]
def wsX12_holders_r2 : List Cond := [Cond.code yX12_isWrittenBy cX12_isWrittenBy 7 (some .boolean), Cond.fieldLink RX12 7 "SpeltByFriendsModel" "kindOf" "[I", Cond.methodLink RX12 102 yX12_isThere, Cond.instanceMethod yX12_isThere, Cond.selects RX12 yX12_isThere yX12_isThere, Cond.code yX12_isThere cX12_isThere 4 (some .boolean), Cond.fieldLink RX12 19 "SpeltByFriendsModel" "quarrelsOf" "[I", Cond.methodLink RX12 98 yX12_isIn, Cond.static yX12_isIn, Cond.code yX12_isIn cX12_isIn 2 (some .boolean)]
def wsX12_holders : List Cond := .code yX12_holders cX12_holders 3 (some .int) :: ((wsX12_holders_r1 ++ wsX12_holders_r2) ++ wsX120)
def wsX12_writtenWays : List Cond := .code yX12_writtenWays cX12_writtenWays 7 (some .int) :: ([.fieldLink RX12 83 "SpeltByFriendsModel" "people" "I", .methodLink RX12 166 yX12_couldHold, .instanceMethod yX12_couldHold, .selects RX12 yX12_couldHold yX12_couldHold, .initialized RX12, .code yX12_couldHold cX12_couldHold 6 (some .boolean), .fieldLink RX12 95 "SpeltByFriendsModel" "heard" "I", .fieldLink RX12 22 "SpeltByFriendsModel" "heardWho" "[I", .fieldLink RX12 25 "SpeltByFriendsModel" "heardIn" "[I", .fieldLink RX12 28 "SpeltByFriendsModel" "heardSo" "[I", .methodLink RX12 105 yX12_isWrittenBy, .instanceMethod yX12_isWrittenBy, .selects RX12 yX12_isWrittenBy yX12_isWrittenBy, .code yX12_isWrittenBy cX12_isWrittenBy 7 (some .boolean), .fieldLink RX12 7 "SpeltByFriendsModel" "kindOf" "[I", .methodLink RX12 102 yX12_isThere, .instanceMethod yX12_isThere, .selects RX12 yX12_isThere yX12_isThere, .code yX12_isThere cX12_isThere 4 (some .boolean), .fieldLink RX12 19 "SpeltByFriendsModel" "quarrelsOf" "[I", .methodLink RX12 98 yX12_isIn, .static yX12_isIn, .code yX12_isIn cX12_isIn 2 (some .boolean)] ++ wsX120)
def wsX12_inviteNow_r1 : List Cond := [Cond.constant RX12 141 (268435456), Cond.fieldLink RX12 83 "SpeltByFriendsModel" "people" "I", Cond.methodLink RX12 169 yX12_holdersNow, Cond.instanceMethod yX12_holdersNow, Cond.selects RX12 yX12_holdersNow yX12_holdersNow, Cond.initialized RX12, Cond.code yX12_holdersNow cX12_holdersNow 7 (some .int), Cond.methodLink RX12 166 yX12_couldHold, Cond.instanceMethod yX12_couldHold, Cond.selects RX12 yX12_couldHold yX12_couldHold, Cond.code yX12_couldHold cX12_couldHold 6 (some .boolean), Cond.fieldLink RX12 95 "SpeltByFriendsModel" "heard" "I", Cond.fieldLink RX12 22 "SpeltByFriendsModel" "heardWho" "[I", Cond.fieldLink RX12 25 "SpeltByFriendsModel" "heardIn" "[I", Cond.fieldLink RX12 28 "SpeltByFriendsModel" "heardSo" "[I", Cond.methodLink RX12 105 yX12_isWrittenBy, Cond.instanceMethod yX12_isWrittenBy, Cond.selects RX12 yX12_isWrittenBy yX12_isWrittenBy, Cond.code yX12_isWrittenBy cX12_isWrittenBy 7 (some .boolean), Cond.fieldLink RX12 7 "SpeltByFriendsModel" "kindOf" "[I", Cond.methodLink RX12 102 yX12_isThere, Cond.instanceMethod yX12_isThere, Cond.selects RX12 yX12_isThere yX12_isThere, Cond.code yX12_isThere cX12_isThere 4 (some .boolean)]
def wsX12_inviteNow_r2 : List Cond := [Cond.fieldLink RX12 19 "SpeltByFriendsModel" "quarrelsOf" "[I", Cond.methodLink RX12 98 yX12_isIn, Cond.static yX12_isIn, Cond.code yX12_isIn cX12_isIn 2 (some .boolean), Cond.methodLink RX12 172 yX12_writtenWays, Cond.instanceMethod yX12_writtenWays, Cond.selects RX12 yX12_writtenWays yX12_writtenWays, Cond.code yX12_writtenWays cX12_writtenWays 7 (some .int)]
def wsX12_inviteNow : List Cond := .code yX12_inviteNow cX12_inviteNow 8 (some .int) :: ((wsX12_inviteNow_r1 ++ wsX12_inviteNow_r2) ++ wsX120)
def wsX12_invite_r1 : List Cond := [Cond.methodLink RX12 124 yX12_isOne, Cond.instanceMethod yX12_isOne, Cond.selects RX12 yX12_isOne yX12_isOne, Cond.initialized RX12, Cond.code yX12_isOne cX12_isOne 2 (some .boolean), Cond.fieldLink RX12 83 "SpeltByFriendsModel" "people" "I", Cond.methodLink RX12 59 yX12_within, Cond.static yX12_within, Cond.code yX12_within cX12_within 3 (some .boolean), Cond.methodLink RX12 175 yX12_inviteNow, Cond.instanceMethod yX12_inviteNow, Cond.selects RX12 yX12_inviteNow yX12_inviteNow, Cond.code yX12_inviteNow cX12_inviteNow 8 (some .int), Cond.constant RX12 141 (268435456), Cond.methodLink RX12 169 yX12_holdersNow, Cond.instanceMethod yX12_holdersNow, Cond.selects RX12 yX12_holdersNow yX12_holdersNow, Cond.code yX12_holdersNow cX12_holdersNow 7 (some .int), Cond.methodLink RX12 166 yX12_couldHold, Cond.instanceMethod yX12_couldHold, Cond.selects RX12 yX12_couldHold yX12_couldHold, Cond.code yX12_couldHold cX12_couldHold 6 (some .boolean), Cond.fieldLink RX12 95 "SpeltByFriendsModel" "heard" "I", Cond.fieldLink RX12 22 "SpeltByFriendsModel" "heardWho" "[I"]
def wsX12_invite_r2 : List Cond := [Cond.fieldLink RX12 25 "SpeltByFriendsModel" "heardIn" "[I", Cond.fieldLink RX12 28 "SpeltByFriendsModel" "heardSo" "[I", Cond.methodLink RX12 105 yX12_isWrittenBy, Cond.instanceMethod yX12_isWrittenBy, Cond.selects RX12 yX12_isWrittenBy yX12_isWrittenBy, Cond.code yX12_isWrittenBy cX12_isWrittenBy 7 (some .boolean), Cond.fieldLink RX12 7 "SpeltByFriendsModel" "kindOf" "[I", Cond.methodLink RX12 102 yX12_isThere, Cond.instanceMethod yX12_isThere, Cond.selects RX12 yX12_isThere yX12_isThere, Cond.code yX12_isThere cX12_isThere 4 (some .boolean), Cond.fieldLink RX12 19 "SpeltByFriendsModel" "quarrelsOf" "[I", Cond.methodLink RX12 98 yX12_isIn, Cond.static yX12_isIn, Cond.code yX12_isIn cX12_isIn 2 (some .boolean), Cond.methodLink RX12 172 yX12_writtenWays, Cond.instanceMethod yX12_writtenWays, Cond.selects RX12 yX12_writtenWays yX12_writtenWays, Cond.code yX12_writtenWays cX12_writtenWays 7 (some .int)]
def wsX12_invite : List Cond := .code yX12_invite cX12_invite 2 (some .int) :: ((wsX12_invite_r1 ++ wsX12_invite_r2) ++ wsX120)
def wsX12_writtenAll_r1 : List Cond := [Cond.fieldLink RX12 83 "SpeltByFriendsModel" "people" "I", Cond.methodLink RX12 115 yX12_isWrittenNow, Cond.instanceMethod yX12_isWrittenNow, Cond.selects RX12 yX12_isWrittenNow yX12_isWrittenNow, Cond.initialized RX12, Cond.code yX12_isWrittenNow cX12_isWrittenNow 2 (some .boolean), Cond.methodLink RX12 109 yX12_companyOf, Cond.instanceMethod yX12_companyOf, Cond.selects RX12 yX12_companyOf yX12_companyOf, Cond.code yX12_companyOf cX12_companyOf 4 (some .int), Cond.fieldLink RX12 16 "SpeltByFriendsModel" "roomOf" "[I", Cond.methodLink RX12 112 yX12_isWritten, Cond.instanceMethod yX12_isWritten, Cond.selects RX12 yX12_isWritten yX12_isWritten, Cond.code yX12_isWritten cX12_isWritten 3 (some .boolean), Cond.fieldLink RX12 13 "SpeltByFriendsModel" "holderOf" "[I", Cond.methodLink RX12 105 yX12_isWrittenBy, Cond.instanceMethod yX12_isWrittenBy, Cond.selects RX12 yX12_isWrittenBy yX12_isWrittenBy, Cond.code yX12_isWrittenBy cX12_isWrittenBy 7 (some .boolean), Cond.fieldLink RX12 7 "SpeltByFriendsModel" "kindOf" "[I", Cond.methodLink RX12 102 yX12_isThere, Cond.instanceMethod yX12_isThere, Cond.selects RX12 yX12_isThere yX12_isThere]
def wsX12_writtenAll_r2 : List Cond := [Cond.code yX12_isThere cX12_isThere 4 (some .boolean), Cond.fieldLink RX12 19 "SpeltByFriendsModel" "quarrelsOf" "[I", Cond.methodLink RX12 98 yX12_isIn, Cond.static yX12_isIn, Cond.code yX12_isIn cX12_isIn 2 (some .boolean)]
def wsX12_writtenAll : List Cond := .code yX12_writtenAll cX12_writtenAll 3 (some .int) :: ((wsX12_writtenAll_r1 ++ wsX12_writtenAll_r2) ++ wsX120)
def wsX12_draw : List Cond := .code yX12_draw cX12_draw 2 (some .int) :: ([.constantLong RX12 178 (1103515245), .fieldLink RX12 180 "SpeltByFriendsModel" "seedNow" "J", .constantLong RX12 184 (12345), .constantLong RX12 186 (2147483647), .constantLong RX12 188 (65536)] ++ wsX120)
def wsX12_yearsNow_r1 : List Cond := [Cond.fieldLink RX12 83 "SpeltByFriendsModel" "people" "I", Cond.fieldLink RX12 38 "SpeltByFriendsModel" "saved" "[I", Cond.fieldLink RX12 16 "SpeltByFriendsModel" "roomOf" "[I", Cond.fieldLink RX12 180 "SpeltByFriendsModel" "seedNow" "J", Cond.methodLink RX12 190 yX12_draw, Cond.instanceMethod yX12_draw, Cond.selects RX12 yX12_draw yX12_draw, Cond.initialized RX12, Cond.code yX12_draw cX12_draw 2 (some .int), Cond.constantLong RX12 178 (1103515245), Cond.constantLong RX12 184 (12345), Cond.constantLong RX12 186 (2147483647), Cond.constantLong RX12 188 (65536), Cond.methodLink RX12 193 yX12_writtenAll, Cond.instanceMethod yX12_writtenAll, Cond.selects RX12 yX12_writtenAll yX12_writtenAll, Cond.code yX12_writtenAll cX12_writtenAll 3 (some .int), Cond.methodLink RX12 115 yX12_isWrittenNow, Cond.instanceMethod yX12_isWrittenNow, Cond.selects RX12 yX12_isWrittenNow yX12_isWrittenNow, Cond.code yX12_isWrittenNow cX12_isWrittenNow 2 (some .boolean), Cond.methodLink RX12 109 yX12_companyOf, Cond.instanceMethod yX12_companyOf, Cond.selects RX12 yX12_companyOf yX12_companyOf]
def wsX12_yearsNow_r2 : List Cond := [Cond.code yX12_companyOf cX12_companyOf 4 (some .int), Cond.methodLink RX12 112 yX12_isWritten, Cond.instanceMethod yX12_isWritten, Cond.selects RX12 yX12_isWritten yX12_isWritten, Cond.code yX12_isWritten cX12_isWritten 3 (some .boolean), Cond.fieldLink RX12 13 "SpeltByFriendsModel" "holderOf" "[I", Cond.methodLink RX12 105 yX12_isWrittenBy, Cond.instanceMethod yX12_isWrittenBy, Cond.selects RX12 yX12_isWrittenBy yX12_isWrittenBy, Cond.code yX12_isWrittenBy cX12_isWrittenBy 7 (some .boolean), Cond.fieldLink RX12 7 "SpeltByFriendsModel" "kindOf" "[I", Cond.methodLink RX12 102 yX12_isThere, Cond.instanceMethod yX12_isThere, Cond.selects RX12 yX12_isThere yX12_isThere, Cond.code yX12_isThere cX12_isThere 4 (some .boolean), Cond.fieldLink RX12 19 "SpeltByFriendsModel" "quarrelsOf" "[I", Cond.methodLink RX12 98 yX12_isIn, Cond.static yX12_isIn, Cond.code yX12_isIn cX12_isIn 2 (some .boolean)]
def wsX12_yearsNow : List Cond := .code yX12_yearsNow cX12_yearsNow 7 (some .int) :: ((wsX12_yearsNow_r1 ++ wsX12_yearsNow_r2) ++ wsX120)
def wsX12_years_r1 : List Cond := [Cond.fieldLink RX12 83 "SpeltByFriendsModel" "people" "I", Cond.methodLink RX12 59 yX12_within, Cond.static yX12_within, Cond.initialized RX12, Cond.code yX12_within cX12_within 3 (some .boolean), Cond.methodLink RX12 196 yX12_yearsNow, Cond.instanceMethod yX12_yearsNow, Cond.selects RX12 yX12_yearsNow yX12_yearsNow, Cond.code yX12_yearsNow cX12_yearsNow 7 (some .int), Cond.fieldLink RX12 38 "SpeltByFriendsModel" "saved" "[I", Cond.fieldLink RX12 16 "SpeltByFriendsModel" "roomOf" "[I", Cond.fieldLink RX12 180 "SpeltByFriendsModel" "seedNow" "J", Cond.methodLink RX12 190 yX12_draw, Cond.instanceMethod yX12_draw, Cond.selects RX12 yX12_draw yX12_draw, Cond.code yX12_draw cX12_draw 2 (some .int), Cond.constantLong RX12 178 (1103515245), Cond.constantLong RX12 184 (12345), Cond.constantLong RX12 186 (2147483647), Cond.constantLong RX12 188 (65536), Cond.methodLink RX12 193 yX12_writtenAll, Cond.instanceMethod yX12_writtenAll, Cond.selects RX12 yX12_writtenAll yX12_writtenAll, Cond.code yX12_writtenAll cX12_writtenAll 3 (some .int)]
def wsX12_years_r2 : List Cond := [Cond.methodLink RX12 115 yX12_isWrittenNow, Cond.instanceMethod yX12_isWrittenNow, Cond.selects RX12 yX12_isWrittenNow yX12_isWrittenNow, Cond.code yX12_isWrittenNow cX12_isWrittenNow 2 (some .boolean), Cond.methodLink RX12 109 yX12_companyOf, Cond.instanceMethod yX12_companyOf, Cond.selects RX12 yX12_companyOf yX12_companyOf, Cond.code yX12_companyOf cX12_companyOf 4 (some .int), Cond.methodLink RX12 112 yX12_isWritten, Cond.instanceMethod yX12_isWritten, Cond.selects RX12 yX12_isWritten yX12_isWritten, Cond.code yX12_isWritten cX12_isWritten 3 (some .boolean), Cond.fieldLink RX12 13 "SpeltByFriendsModel" "holderOf" "[I", Cond.methodLink RX12 105 yX12_isWrittenBy, Cond.instanceMethod yX12_isWrittenBy, Cond.selects RX12 yX12_isWrittenBy yX12_isWrittenBy, Cond.code yX12_isWrittenBy cX12_isWrittenBy 7 (some .boolean), Cond.fieldLink RX12 7 "SpeltByFriendsModel" "kindOf" "[I", Cond.methodLink RX12 102 yX12_isThere, Cond.instanceMethod yX12_isThere, Cond.selects RX12 yX12_isThere yX12_isThere, Cond.code yX12_isThere cX12_isThere 4 (some .boolean), Cond.fieldLink RX12 19 "SpeltByFriendsModel" "quarrelsOf" "[I", Cond.methodLink RX12 98 yX12_isIn]
def wsX12_years_r3 : List Cond := [Cond.static yX12_isIn, Cond.code yX12_isIn cX12_isIn 2 (some .boolean)]
def wsX12_years : List Cond := .code yX12_years cX12_years 4 (some .int) :: ((wsX12_years_r1 ++ (wsX12_years_r2 ++ wsX12_years_r3)) ++ wsX120)
def wsX12_image : List Cond := .code yX12_image cX12_image 2 (some .int) :: ([.fieldLink RX12 83 "SpeltByFriendsModel" "people" "I", .fieldLink RX12 200 "SpeltByFriendsModel" "isKept" "Z", .fieldLink RX12 86 "SpeltByFriendsModel" "towns" "I", .fieldLink RX12 204 "SpeltByFriendsModel" "keptTown" "I", .fieldLink RX12 89 "SpeltByFriendsModel" "went" "I", .fieldLink RX12 207 "SpeltByFriendsModel" "keptWent" "I", .fieldLink RX12 92 "SpeltByFriendsModel" "sold" "I", .fieldLink RX12 210 "SpeltByFriendsModel" "keptSold" "I", .fieldLink RX12 95 "SpeltByFriendsModel" "heard" "I", .fieldLink RX12 213 "SpeltByFriendsModel" "keptHeard" "I", .fieldLink RX12 41 "SpeltByFriendsModel" "keptHolder" "[I", .fieldLink RX12 13 "SpeltByFriendsModel" "holderOf" "[I", .fieldLink RX12 44 "SpeltByFriendsModel" "keptRoom" "[I", .fieldLink RX12 16 "SpeltByFriendsModel" "roomOf" "[I", .fieldLink RX12 47 "SpeltByFriendsModel" "keptQuarrels" "[I", .fieldLink RX12 19 "SpeltByFriendsModel" "quarrelsOf" "[I", .fieldLink RX12 50 "SpeltByFriendsModel" "keptWho" "[I", .fieldLink RX12 22 "SpeltByFriendsModel" "heardWho" "[I", .fieldLink RX12 53 "SpeltByFriendsModel" "keptIn" "[I", .fieldLink RX12 25 "SpeltByFriendsModel" "heardIn" "[I", .fieldLink RX12 56 "SpeltByFriendsModel" "keptSo" "[I", .fieldLink RX12 28 "SpeltByFriendsModel" "heardSo" "[I"] ++ wsX120)
def wsX12_restore : List Cond := .code yX12_restore cX12_restore 2 (some .int) :: ([.fieldLink RX12 200 "SpeltByFriendsModel" "isKept" "Z", .fieldLink RX12 204 "SpeltByFriendsModel" "keptTown" "I", .fieldLink RX12 86 "SpeltByFriendsModel" "towns" "I", .fieldLink RX12 207 "SpeltByFriendsModel" "keptWent" "I", .fieldLink RX12 89 "SpeltByFriendsModel" "went" "I", .fieldLink RX12 210 "SpeltByFriendsModel" "keptSold" "I", .fieldLink RX12 92 "SpeltByFriendsModel" "sold" "I", .fieldLink RX12 213 "SpeltByFriendsModel" "keptHeard" "I", .fieldLink RX12 95 "SpeltByFriendsModel" "heard" "I", .fieldLink RX12 13 "SpeltByFriendsModel" "holderOf" "[I", .fieldLink RX12 41 "SpeltByFriendsModel" "keptHolder" "[I", .fieldLink RX12 16 "SpeltByFriendsModel" "roomOf" "[I", .fieldLink RX12 44 "SpeltByFriendsModel" "keptRoom" "[I", .fieldLink RX12 19 "SpeltByFriendsModel" "quarrelsOf" "[I", .fieldLink RX12 47 "SpeltByFriendsModel" "keptQuarrels" "[I", .fieldLink RX12 22 "SpeltByFriendsModel" "heardWho" "[I", .fieldLink RX12 50 "SpeltByFriendsModel" "keptWho" "[I", .fieldLink RX12 25 "SpeltByFriendsModel" "heardIn" "[I", .fieldLink RX12 53 "SpeltByFriendsModel" "keptIn" "[I", .fieldLink RX12 28 "SpeltByFriendsModel" "heardSo" "[I", .fieldLink RX12 56 "SpeltByFriendsModel" "keptSo" "[I"] ++ wsX120)
def wsX12_pairs : List Cond := .code yX12_pairs cX12_pairs 3 (some .int) :: ([.fieldLink RX12 83 "SpeltByFriendsModel" "people" "I", .fieldLink RX12 19 "SpeltByFriendsModel" "quarrelsOf" "[I", .methodLink RX12 216 yX12_size, .static yX12_size, .initialized RX12, .code yX12_size cX12_size 3 (some .int)] ++ wsX120)
def wsX12_howMany_r1 : List Cond := [Cond.fieldLink RX12 83 "SpeltByFriendsModel" "people" "I", Cond.fieldLink RX12 89 "SpeltByFriendsModel" "went" "I", Cond.fieldLink RX12 92 "SpeltByFriendsModel" "sold" "I", Cond.fieldLink RX12 95 "SpeltByFriendsModel" "heard" "I", Cond.fieldLink RX12 63 "SpeltByFriendsModel" "pageLength" "I", Cond.fieldLink RX12 86 "SpeltByFriendsModel" "towns" "I", Cond.fieldLink RX12 148 "SpeltByFriendsModel" "moveAsks" "I", Cond.fieldLink RX12 160 "SpeltByFriendsModel" "dayAsks" "I", Cond.methodLink RX12 193 yX12_writtenAll, Cond.instanceMethod yX12_writtenAll, Cond.selects RX12 yX12_writtenAll yX12_writtenAll, Cond.initialized RX12, Cond.code yX12_writtenAll cX12_writtenAll 3 (some .int), Cond.methodLink RX12 115 yX12_isWrittenNow, Cond.instanceMethod yX12_isWrittenNow, Cond.selects RX12 yX12_isWrittenNow yX12_isWrittenNow, Cond.code yX12_isWrittenNow cX12_isWrittenNow 2 (some .boolean), Cond.methodLink RX12 109 yX12_companyOf, Cond.instanceMethod yX12_companyOf, Cond.selects RX12 yX12_companyOf yX12_companyOf, Cond.code yX12_companyOf cX12_companyOf 4 (some .int), Cond.fieldLink RX12 16 "SpeltByFriendsModel" "roomOf" "[I", Cond.methodLink RX12 112 yX12_isWritten, Cond.instanceMethod yX12_isWritten]
def wsX12_howMany_r2 : List Cond := [Cond.selects RX12 yX12_isWritten yX12_isWritten, Cond.code yX12_isWritten cX12_isWritten 3 (some .boolean), Cond.fieldLink RX12 13 "SpeltByFriendsModel" "holderOf" "[I", Cond.methodLink RX12 105 yX12_isWrittenBy, Cond.instanceMethod yX12_isWrittenBy, Cond.selects RX12 yX12_isWrittenBy yX12_isWrittenBy, Cond.code yX12_isWrittenBy cX12_isWrittenBy 7 (some .boolean), Cond.fieldLink RX12 7 "SpeltByFriendsModel" "kindOf" "[I", Cond.methodLink RX12 102 yX12_isThere, Cond.instanceMethod yX12_isThere, Cond.selects RX12 yX12_isThere yX12_isThere, Cond.code yX12_isThere cX12_isThere 4 (some .boolean), Cond.fieldLink RX12 19 "SpeltByFriendsModel" "quarrelsOf" "[I", Cond.methodLink RX12 98 yX12_isIn, Cond.static yX12_isIn, Cond.code yX12_isIn cX12_isIn 2 (some .boolean), Cond.methodLink RX12 219 yX12_pairs, Cond.instanceMethod yX12_pairs, Cond.selects RX12 yX12_pairs yX12_pairs, Cond.code yX12_pairs cX12_pairs 3 (some .int), Cond.methodLink RX12 216 yX12_size, Cond.static yX12_size, Cond.code yX12_size cX12_size 3 (some .int)]
def wsX12_howMany : List Cond := .code yX12_howMany cX12_howMany 2 (some .int) :: ((wsX12_howMany_r1 ++ wsX12_howMany_r2) ++ wsX120)
def wsX12_count_r1 : List Cond := [Cond.methodLink RX12 222 yX12_howMany, Cond.instanceMethod yX12_howMany, Cond.selects RX12 yX12_howMany yX12_howMany, Cond.initialized RX12, Cond.code yX12_howMany cX12_howMany 2 (some .int), Cond.fieldLink RX12 83 "SpeltByFriendsModel" "people" "I", Cond.fieldLink RX12 89 "SpeltByFriendsModel" "went" "I", Cond.fieldLink RX12 92 "SpeltByFriendsModel" "sold" "I", Cond.fieldLink RX12 95 "SpeltByFriendsModel" "heard" "I", Cond.fieldLink RX12 63 "SpeltByFriendsModel" "pageLength" "I", Cond.fieldLink RX12 86 "SpeltByFriendsModel" "towns" "I", Cond.fieldLink RX12 148 "SpeltByFriendsModel" "moveAsks" "I", Cond.fieldLink RX12 160 "SpeltByFriendsModel" "dayAsks" "I", Cond.methodLink RX12 193 yX12_writtenAll, Cond.instanceMethod yX12_writtenAll, Cond.selects RX12 yX12_writtenAll yX12_writtenAll, Cond.code yX12_writtenAll cX12_writtenAll 3 (some .int), Cond.methodLink RX12 115 yX12_isWrittenNow, Cond.instanceMethod yX12_isWrittenNow, Cond.selects RX12 yX12_isWrittenNow yX12_isWrittenNow, Cond.code yX12_isWrittenNow cX12_isWrittenNow 2 (some .boolean), Cond.methodLink RX12 109 yX12_companyOf, Cond.instanceMethod yX12_companyOf, Cond.selects RX12 yX12_companyOf yX12_companyOf]
def wsX12_count_r2 : List Cond := [Cond.code yX12_companyOf cX12_companyOf 4 (some .int), Cond.fieldLink RX12 16 "SpeltByFriendsModel" "roomOf" "[I", Cond.methodLink RX12 112 yX12_isWritten, Cond.instanceMethod yX12_isWritten, Cond.selects RX12 yX12_isWritten yX12_isWritten, Cond.code yX12_isWritten cX12_isWritten 3 (some .boolean), Cond.fieldLink RX12 13 "SpeltByFriendsModel" "holderOf" "[I", Cond.methodLink RX12 105 yX12_isWrittenBy, Cond.instanceMethod yX12_isWrittenBy, Cond.selects RX12 yX12_isWrittenBy yX12_isWrittenBy, Cond.code yX12_isWrittenBy cX12_isWrittenBy 7 (some .boolean), Cond.fieldLink RX12 7 "SpeltByFriendsModel" "kindOf" "[I", Cond.methodLink RX12 102 yX12_isThere, Cond.instanceMethod yX12_isThere, Cond.selects RX12 yX12_isThere yX12_isThere, Cond.code yX12_isThere cX12_isThere 4 (some .boolean), Cond.fieldLink RX12 19 "SpeltByFriendsModel" "quarrelsOf" "[I", Cond.methodLink RX12 98 yX12_isIn, Cond.static yX12_isIn, Cond.code yX12_isIn cX12_isIn 2 (some .boolean), Cond.methodLink RX12 219 yX12_pairs, Cond.instanceMethod yX12_pairs, Cond.selects RX12 yX12_pairs yX12_pairs, Cond.code yX12_pairs cX12_pairs 3 (some .int)]
def wsX12_count_r3 : List Cond := [Cond.methodLink RX12 216 yX12_size, Cond.static yX12_size, Cond.code yX12_size cX12_size 3 (some .int)]
def wsX12_count : List Cond := .code yX12_count cX12_count 2 (some .int) :: ((wsX12_count_r1 ++ (wsX12_count_r2 ++ wsX12_count_r3)) ++ wsX120)
def wsX12_mix : List Cond := .code yX12_mix cX12_mix 3 none :: ([.constantLong RX12 225 (31), .fieldLink RX12 227 "SpeltByFriendsModel" "h" "J"] ++ wsX120)
def wsX12_digest_r1 : List Cond := [Cond.constantLong RX12 230 (983), Cond.fieldLink RX12 227 "SpeltByFriendsModel" "h" "J", Cond.fieldLink RX12 83 "SpeltByFriendsModel" "people" "I", Cond.fieldLink RX12 63 "SpeltByFriendsModel" "pageLength" "I", Cond.fieldLink RX12 31 "SpeltByFriendsModel" "page" "[B", Cond.methodLink RX12 127 yX12_oneNow, Cond.instanceMethod yX12_oneNow, Cond.selects RX12 yX12_oneNow yX12_oneNow, Cond.initialized RX12, Cond.code yX12_oneNow cX12_oneNow 3 (some .int), Cond.fieldLink RX12 7 "SpeltByFriendsModel" "kindOf" "[I", Cond.fieldLink RX12 13 "SpeltByFriendsModel" "holderOf" "[I", Cond.fieldLink RX12 16 "SpeltByFriendsModel" "roomOf" "[I", Cond.fieldLink RX12 19 "SpeltByFriendsModel" "quarrelsOf" "[I", Cond.methodLink RX12 115 yX12_isWrittenNow, Cond.instanceMethod yX12_isWrittenNow, Cond.selects RX12 yX12_isWrittenNow yX12_isWrittenNow, Cond.code yX12_isWrittenNow cX12_isWrittenNow 2 (some .boolean), Cond.methodLink RX12 109 yX12_companyOf, Cond.instanceMethod yX12_companyOf, Cond.selects RX12 yX12_companyOf yX12_companyOf, Cond.code yX12_companyOf cX12_companyOf 4 (some .int), Cond.methodLink RX12 112 yX12_isWritten, Cond.instanceMethod yX12_isWritten]
def wsX12_digest_r2 : List Cond := [Cond.selects RX12 yX12_isWritten yX12_isWritten, Cond.code yX12_isWritten cX12_isWritten 3 (some .boolean), Cond.methodLink RX12 105 yX12_isWrittenBy, Cond.instanceMethod yX12_isWrittenBy, Cond.selects RX12 yX12_isWrittenBy yX12_isWrittenBy, Cond.code yX12_isWrittenBy cX12_isWrittenBy 7 (some .boolean), Cond.methodLink RX12 102 yX12_isThere, Cond.instanceMethod yX12_isThere, Cond.selects RX12 yX12_isThere yX12_isThere, Cond.code yX12_isThere cX12_isThere 4 (some .boolean), Cond.methodLink RX12 98 yX12_isIn, Cond.static yX12_isIn, Cond.code yX12_isIn cX12_isIn 2 (some .boolean), Cond.methodLink RX12 118 yX12_lettersOf, Cond.instanceMethod yX12_lettersOf, Cond.selects RX12 yX12_lettersOf yX12_lettersOf, Cond.code yX12_lettersOf cX12_lettersOf 4 (some .int), Cond.methodLink RX12 121 yX12_wantsOf, Cond.instanceMethod yX12_wantsOf, Cond.selects RX12 yX12_wantsOf yX12_wantsOf, Cond.code yX12_wantsOf cX12_wantsOf 4 (some .int), Cond.methodLink RX12 232 yX12_mix, Cond.instanceMethod yX12_mix, Cond.selects RX12 yX12_mix yX12_mix]
def wsX12_digest_r3 : List Cond := [Cond.code yX12_mix cX12_mix 3 none, Cond.constantLong RX12 225 (31), Cond.methodLink RX12 169 yX12_holdersNow, Cond.instanceMethod yX12_holdersNow, Cond.selects RX12 yX12_holdersNow yX12_holdersNow, Cond.code yX12_holdersNow cX12_holdersNow 7 (some .int), Cond.methodLink RX12 166 yX12_couldHold, Cond.instanceMethod yX12_couldHold, Cond.selects RX12 yX12_couldHold yX12_couldHold, Cond.code yX12_couldHold cX12_couldHold 6 (some .boolean), Cond.fieldLink RX12 95 "SpeltByFriendsModel" "heard" "I", Cond.fieldLink RX12 22 "SpeltByFriendsModel" "heardWho" "[I", Cond.fieldLink RX12 25 "SpeltByFriendsModel" "heardIn" "[I", Cond.fieldLink RX12 28 "SpeltByFriendsModel" "heardSo" "[I", Cond.methodLink RX12 175 yX12_inviteNow, Cond.instanceMethod yX12_inviteNow, Cond.selects RX12 yX12_inviteNow yX12_inviteNow, Cond.code yX12_inviteNow cX12_inviteNow 8 (some .int), Cond.constant RX12 141 (268435456), Cond.methodLink RX12 172 yX12_writtenWays, Cond.instanceMethod yX12_writtenWays, Cond.selects RX12 yX12_writtenWays yX12_writtenWays, Cond.code yX12_writtenWays cX12_writtenWays 7 (some .int), Cond.methodLink RX12 222 yX12_howMany]
def wsX12_digest_r4 : List Cond := [Cond.instanceMethod yX12_howMany, Cond.selects RX12 yX12_howMany yX12_howMany, Cond.code yX12_howMany cX12_howMany 2 (some .int), Cond.fieldLink RX12 89 "SpeltByFriendsModel" "went" "I", Cond.fieldLink RX12 92 "SpeltByFriendsModel" "sold" "I", Cond.fieldLink RX12 86 "SpeltByFriendsModel" "towns" "I", Cond.fieldLink RX12 148 "SpeltByFriendsModel" "moveAsks" "I", Cond.fieldLink RX12 160 "SpeltByFriendsModel" "dayAsks" "I", Cond.methodLink RX12 193 yX12_writtenAll, Cond.instanceMethod yX12_writtenAll, Cond.selects RX12 yX12_writtenAll yX12_writtenAll, Cond.code yX12_writtenAll cX12_writtenAll 3 (some .int), Cond.methodLink RX12 219 yX12_pairs, Cond.instanceMethod yX12_pairs, Cond.selects RX12 yX12_pairs yX12_pairs, Cond.code yX12_pairs cX12_pairs 3 (some .int), Cond.methodLink RX12 216 yX12_size, Cond.static yX12_size, Cond.code yX12_size cX12_size 3 (some .int)]
def wsX12_digest : List Cond := .code yX12_digest cX12_digest 3 (some .long) :: ((wsX12_digest_r1 ++ (wsX12_digest_r2 ++ (wsX12_digest_r3 ++ wsX12_digest_r4))) ++ wsX120)
def wsJ9_max_7cf53 : List Cond := .code yJ9_max_7cf53 cJ9_max_7cf53 2 (some .int) :: ([])
def wsJ9_min_7cf53 : List Cond := .code yJ9_min_7cf53 cJ9_min_7cf53 2 (some .int) :: ([])
def wsL_law_r1 : List Cond := [Cond.classLink RL 7 RX11, Cond.instantiable RX11 10, Cond.initialized RX11, Cond.classLink RL 10 RX12, Cond.instantiable RX12 31, Cond.initialized RX12, Cond.methodLink RL 9 yX11_init, Cond.instanceMethod yX11_init, Cond.code yX11_init cX11_init 1 none, Cond.methodLink RX11 1 objectInit, Cond.instanceMethod objectInit, Cond.code objectInit ⟨#[0xb1]⟩ 1 none, Cond.classLink RX11 7 RX5, Cond.instantiable RX5 2, Cond.initialized RX5, Cond.fieldLink RX11 10 "SpeltByFriends" "page" "LSpeltByFriends$Page;", Cond.classLink RX11 16 RX9, Cond.instantiable RX9 4, Cond.initialized RX9, Cond.fieldLink RX11 19 "SpeltByFriends" "here" "LSpeltByFriends$Town;", Cond.classLink RX11 23 RX3, Cond.instantiable RX3 10, Cond.initialized RX3, Cond.fieldLink RX11 26 "SpeltByFriends" "kept" "LSpeltByFriends$Ledger;"]
def wsL_law_r2 : List Cond := [Cond.classLink RX11 30 RX7, Cond.instantiable RX7 4, Cond.initialized RX7, Cond.fieldLink RX11 33 "SpeltByFriends" "plans" "LSpeltByFriends$Plans;", Cond.classLink RX11 37 RX1, Cond.instantiable RX1 4, Cond.initialized RX1, Cond.fieldLink RX11 40 "SpeltByFriends" "guesses" "LSpeltByFriends$Guesses;", Cond.classLink RX11 44 RX4, Cond.instantiable RX4 3, Cond.initialized RX4, Cond.fieldLink RX11 47 "SpeltByFriends" "lottery" "LSpeltByFriends$Lottery;", Cond.instanceMethod yX5_init, Cond.code yX5_init cX5_init 1 none, Cond.methodLink RX5 3 objectInit, Cond.arrayClass .int, Cond.fieldLink RX5 9 "SpeltByFriends$Page" "letters" "[I", Cond.instanceMethod yX9_init, Cond.code yX9_init cX9_init 1 none, Cond.methodLink RX9 3 objectInit, Cond.classLink RX9 9 RX3, Cond.fieldLink RX9 12 "SpeltByFriends$Town" "ledger" "LSpeltByFriends$Ledger;", Cond.classLink RX9 18 RX6, Cond.instantiable RX6 1]
def wsL_law_r3 : List Cond := [Cond.initialized RX6, Cond.classLink RX9 23 RX2, Cond.instantiable RX2 1, Cond.initialized RX2, Cond.classLink RX9 26 RX0, Cond.instantiable RX0 1, Cond.initialized RX0, Cond.classLink RX9 29 RX8, Cond.instantiable RX8 1, Cond.initialized RX8, Cond.classLink RX9 32 RX10, Cond.instantiable RX10 1, Cond.initialized RX10, Cond.fieldLink RX9 35 "SpeltByFriends$Town" "kinds" "[LSpeltByFriends$Person;", Cond.fieldLink RX9 39 "SpeltByFriends$Town" "people" "[LSpeltByFriends$Person;", Cond.instanceMethod yX3_init, Cond.code yX3_init cX3_init 1 none, Cond.methodLink RX3 3 objectInit, Cond.fieldLink RX3 9 "SpeltByFriends$Ledger" "firstHolder" "[I", Cond.fieldLink RX3 15 "SpeltByFriends$Ledger" "lastHolder" "[I", Cond.fieldLink RX3 18 "SpeltByFriends$Ledger" "foes" "[I", Cond.fieldLink RX3 21 "SpeltByFriends$Ledger" "heardOf" "[I", Cond.fieldLink RX3 24 "SpeltByFriends$Ledger" "heardIn" "[I", Cond.fieldLink RX3 27 "SpeltByFriends$Ledger" "heardYes" "[I"]
def wsL_law_r4 : List Cond := [Cond.methodLink RX9 20 yX6_init, Cond.instanceMethod yX6_init, Cond.code yX6_init cX6_init 2 none, Cond.methodLink RX6 1 objectInit, Cond.fieldLink RX6 7 "SpeltByFriends$Person" "kind" "I", Cond.methodLink RX9 25 yX2_init, Cond.instanceMethod yX2_init, Cond.code yX2_init cX2_init 1 none, Cond.methodLink RX2 1 yX6_init, Cond.methodLink RX9 28 yX0_init, Cond.instanceMethod yX0_init, Cond.code yX0_init cX0_init 2 none, Cond.methodLink RX0 1 yX6_init, Cond.methodLink RX9 31 yX8_init, Cond.instanceMethod yX8_init, Cond.code yX8_init cX8_init 1 none, Cond.methodLink RX8 1 yX6_init, Cond.methodLink RX9 34 yX10_init, Cond.instanceMethod yX10_init, Cond.code yX10_init cX10_init 1 none, Cond.methodLink RX10 1 yX0_init, Cond.instanceMethod yX7_init, Cond.code yX7_init cX7_init 1 none, Cond.methodLink RX7 3 objectInit]
def wsL_law_r5 : List Cond := [Cond.fieldLink RX7 9 "SpeltByFriends$Plans" "writtenIn" "[I", Cond.fieldLink RX7 15 "SpeltByFriends$Plans" "companies" "[I", Cond.instanceMethod yX1_init, Cond.code yX1_init cX1_init 1 none, Cond.methodLink RX1 3 objectInit, Cond.fieldLink RX1 9 "SpeltByFriends$Guesses" "firsts" "[I", Cond.fieldLink RX1 15 "SpeltByFriends$Guesses" "lasts" "[I", Cond.instanceMethod yX4_init, Cond.code yX4_init cX4_init 1 none, Cond.methodLink RX4 3 objectInit, Cond.methodLink RL 12 yX12_init, Cond.instanceMethod yX12_init, Cond.code yX12_init cX12_init 1 none, Cond.methodLink RX12 1 objectInit, Cond.fieldLink RX12 7 "SpeltByFriendsModel" "kindOf" "[I", Cond.fieldLink RX12 13 "SpeltByFriendsModel" "holderOf" "[I", Cond.fieldLink RX12 16 "SpeltByFriendsModel" "roomOf" "[I", Cond.fieldLink RX12 19 "SpeltByFriendsModel" "quarrelsOf" "[I", Cond.fieldLink RX12 22 "SpeltByFriendsModel" "heardWho" "[I", Cond.fieldLink RX12 25 "SpeltByFriendsModel" "heardIn" "[I", Cond.fieldLink RX12 28 "SpeltByFriendsModel" "heardSo" "[I", Cond.arrayClass .byte, Cond.fieldLink RX12 31 "SpeltByFriendsModel" "page" "[B", Cond.fieldLink RX12 35 "SpeltByFriendsModel" "writtenIn" "[I"]
def wsL_law_r6 : List Cond := [Cond.fieldLink RX12 38 "SpeltByFriendsModel" "saved" "[I", Cond.fieldLink RX12 41 "SpeltByFriendsModel" "keptHolder" "[I", Cond.fieldLink RX12 44 "SpeltByFriendsModel" "keptRoom" "[I", Cond.fieldLink RX12 47 "SpeltByFriendsModel" "keptQuarrels" "[I", Cond.fieldLink RX12 50 "SpeltByFriendsModel" "keptWho" "[I", Cond.fieldLink RX12 53 "SpeltByFriendsModel" "keptIn" "[I", Cond.fieldLink RX12 56 "SpeltByFriendsModel" "keptSo" "[I", Cond.methodLink RL 13 yX11_letter, Cond.instanceMethod yX11_letter, Cond.selects RX11 yX11_letter yX11_letter, Cond.code yX11_letter cX11_letter 2 (some .int), Cond.fieldLink RX11 55 "SpeltByFriends$Page" "length" "I", Cond.methodLink RX11 51 yX5_add, Cond.instanceMethod yX5_add, Cond.selects RX5 yX5_add yX5_add, Cond.code yX5_add cX5_add 2 (some .boolean), Cond.fieldLink RX5 15 "SpeltByFriends$Page" "length" "I", Cond.static yX11_put, Cond.code yX11_put cX11_put 3 none, Cond.methodLink RL 17 yX12_letter, Cond.instanceMethod yX12_letter, Cond.selects RX12 yX12_letter yX12_letter, Cond.code yX12_letter cX12_letter 2 (some .int), Cond.fieldLink RX12 63 "SpeltByFriendsModel" "pageLength" "I"]
def wsL_law_r7 : List Cond := [Cond.methodLink RX12 59 yX12_within, Cond.static yX12_within, Cond.code yX12_within cX12_within 3 (some .boolean), Cond.methodLink RL 18 yX11_blank, Cond.instanceMethod yX11_blank, Cond.selects RX11 yX11_blank yX11_blank, Cond.code yX11_blank cX11_blank 2 (some .int), Cond.methodLink RL 22 yX12_blank, Cond.instanceMethod yX12_blank, Cond.selects RX12 yX12_blank yX12_blank, Cond.code yX12_blank cX12_blank 2 (some .int), Cond.methodLink RL 23 yX11_fault, Cond.instanceMethod yX11_fault, Cond.selects RX11 yX11_fault yX11_fault, Cond.code yX11_fault cX11_fault 1 (some .int), Cond.methodLink RX11 59 yX5_firstFault, Cond.instanceMethod yX5_firstFault, Cond.selects RX5 yX5_firstFault yX5_firstFault, Cond.code yX5_firstFault cX5_firstFault 2 (some .int), Cond.methodLink RX5 43 yX5_fits, Cond.instanceMethod yX5_fits, Cond.selects RX5 yX5_fits yX5_fits, Cond.code yX5_fits cX5_fits 2 (some .boolean), Cond.methodLink RX5 50 yX5_kindAt]
def wsL_law_r8 : List Cond := [Cond.instanceMethod yX5_kindAt, Cond.selects RX5 yX5_kindAt yX5_kindAt, Cond.code yX5_kindAt cX5_kindAt 2 (some .int), Cond.static yX11_at, Cond.code yX11_at cX11_at 2 (some .int), Cond.methodLink RX5 37 yJ0_indexOf_0f7a4, Cond.instanceMethod yJ0_indexOf_0f7a4, Cond.selects RJ0 yJ0_indexOf_0f7a4 yJ0_indexOf_0f7a4, Cond.initialized RJ0, Cond.code yJ0_indexOf_0f7a4 cJ0_indexOf_0f7a4 2 (some .int), Cond.methodLink RJ0 633 yJ0_indexOf_7cf53, Cond.instanceMethod yJ0_indexOf_7cf53, Cond.selects RJ0 yJ0_indexOf_7cf53 yJ0_indexOf_7cf53, Cond.code yJ0_indexOf_7cf53 cJ0_indexOf_7cf53 3 (some .int), Cond.fieldLink RJ0 9 "java/lang/String" "value" "[B", Cond.methodLink RJ0 492 yJ0_isLatin1_aae02, Cond.instanceMethod yJ0_isLatin1_aae02, Cond.selects RJ0 yJ0_isLatin1_aae02 yJ0_isLatin1_aae02, Cond.code yJ0_isLatin1_aae02 cJ0_isLatin1_aae02 1 (some .boolean), Cond.fieldLink RJ0 38 "java/lang/String" "COMPACT_STRINGS" "Z", Cond.fieldLink RJ0 15 "java/lang/String" "coder" "B", Cond.methodLink RJ0 505 yJ0_length_8abf5, Cond.instanceMethod yJ0_length_8abf5, Cond.selects RJ0 yJ0_length_8abf5 yJ0_length_8abf5]
def wsL_law_r9 : List Cond := [Cond.code yJ0_length_8abf5 cJ0_length_8abf5 1 (some .int), Cond.methodLink RJ0 335 yJ0_coder_7d493, Cond.instanceMethod yJ0_coder_7d493, Cond.selects RJ0 yJ0_coder_7d493 yJ0_coder_7d493, Cond.code yJ0_coder_7d493 cJ0_coder_7d493 1 (some .byte), Cond.methodLink RJ0 637 yJ1_indexOf_4cfef, Cond.static yJ1_indexOf_4cfef, Cond.initialized RJ1, Cond.code yJ1_indexOf_4cfef cJ1_indexOf_4cfef 4 (some .int), Cond.methodLink RJ1 92 Lib.Math.max.name, Cond.static Lib.Math.max.name, Cond.initialized "java/lang/Math", Cond.code Lib.Math.max.name Lib.Math.max.code 2 (some .int), Cond.methodLink RJ1 38 Lib.Math.min.name, Cond.static Lib.Math.min.name, Cond.code Lib.Math.min.name Lib.Math.min.code 2 (some .int), Cond.methodLink RJ1 88 yJ1_canEncode_9a6ad, Cond.static yJ1_canEncode_9a6ad, Cond.code yJ1_canEncode_9a6ad cJ1_canEncode_9a6ad 1 (some .boolean), Cond.methodLink RJ1 95 yJ1_indexOfChar_4cfef, Cond.static yJ1_indexOfChar_4cfef, Cond.code yJ1_indexOfChar_4cfef cJ1_indexOfChar_4cfef 6 (some .int), Cond.methodLink RJ0 640 yJ2_indexOf_4cfef, Cond.static yJ2_indexOf_4cfef]
def wsL_law_r10 : List Cond := [Cond.initialized RJ2, Cond.code yJ2_indexOf_4cfef cJ2_indexOf_4cfef 4 (some .int), Cond.methodLink RJ2 224 Lib.Math.max.name, Cond.methodLink RJ2 183 Lib.Math.min.name, Cond.constant RJ2 227 (65536), Cond.methodLink RJ2 228 yJ2_indexOfChar_4cfef, Cond.static yJ2_indexOfChar_4cfef, Cond.code yJ2_indexOfChar_4cfef cJ2_indexOfChar_4cfef 4 (some .int), Cond.methodLink RJ2 96 yJ2_checkBoundsBeginEnd_d044e, Cond.static yJ2_checkBoundsBeginEnd_d044e, Cond.code yJ2_checkBoundsBeginEnd_d044e cJ2_checkBoundsBeginEnd_d044e 3 none, Cond.methodLink RJ2 48 yJ2_length_9d52b, Cond.static yJ2_length_9d52b, Cond.code yJ2_length_9d52b cJ2_length_9d52b 1 (some .int), Cond.methodLink RJ2 241 yJ0_checkBoundsBeginEnd_23922, Cond.static yJ0_checkBoundsBeginEnd_23922, Cond.code yJ0_checkBoundsBeginEnd_23922 cJ0_checkBoundsBeginEnd_23922 3 none, Cond.fieldLink RJ0 1053 "jdk/internal/util/Preconditions" "SIOOBE_FORMATTER" "Ljava/util/function/BiFunction;", Cond.methodLink RJ0 1062 yJ3_checkFromToIndex_8c36e, Cond.static yJ3_checkFromToIndex_8c36e, Cond.initialized RJ3, Cond.code yJ3_checkFromToIndex_8c36e cJ3_checkFromToIndex_8c36e 4 (some .int), Cond.methodLink RJ2 244 yJ2_indexOfCharUnsafe_4cfef, Cond.static yJ2_indexOfCharUnsafe_4cfef]
def wsL_law_r11 : List Cond := [Cond.code yJ2_indexOfCharUnsafe_4cfef cJ2_indexOfCharUnsafe_4cfef 5 (some .int), Cond.methodLink RJ2 71 yJ2_getChar_3b067, Cond.static yJ2_getChar_3b067, Cond.code yJ2_getChar_3b067 cJ2_getChar_3b067 2 (some .char), Cond.fieldLink RJ2 44 "java/lang/StringUTF16" "$assertionsDisabled" "Z", Cond.fieldLink RJ2 59 "java/lang/StringUTF16" "HI_BYTE_SHIFT" "I", Cond.fieldLink RJ2 63 "java/lang/StringUTF16" "LO_BYTE_SHIFT" "I", Cond.methodLink RJ2 232 yJ2_indexOfSupplementary_4cfef, Cond.static yJ2_indexOfSupplementary_4cfef, Cond.code yJ2_indexOfSupplementary_4cfef cJ2_indexOfSupplementary_4cfef 7 (some .int), Cond.methodLink RJ2 164 yJ11_isValidCodePoint_9a6ad, Cond.static yJ11_isValidCodePoint_9a6ad, Cond.initialized RJ11, Cond.code yJ11_isValidCodePoint_9a6ad cJ11_isValidCodePoint_9a6ad 2 (some .boolean), Cond.methodLink RJ2 157 yJ11_highSurrogate_5068e, Cond.static yJ11_highSurrogate_5068e, Cond.code yJ11_highSurrogate_5068e cJ11_highSurrogate_5068e 1 (some .char), Cond.constant RJ11 110 (55232), Cond.methodLink RJ2 161 yJ11_lowSurrogate_5068e, Cond.static yJ11_lowSurrogate_5068e, Cond.code yJ11_lowSurrogate_5068e cJ11_lowSurrogate_5068e 1 (some .char), Cond.constant RJ11 76 (56320), Cond.methodLink RX5 53 yX5_digitAt, Cond.instanceMethod yX5_digitAt]
def wsL_law_r12 : List Cond := [Cond.selects RX5 yX5_digitAt yX5_digitAt, Cond.code yX5_digitAt cX5_digitAt 2 (some .int), Cond.methodLink RX5 23 yX5_isWhole, Cond.instanceMethod yX5_isWhole, Cond.selects RX5 yX5_isWhole yX5_isWhole, Cond.code yX5_isWhole cX5_isWhole 1 (some .boolean), Cond.methodLink RX5 47 yX5_firstNobody, Cond.instanceMethod yX5_firstNobody, Cond.selects RX5 yX5_firstNobody yX5_firstNobody, Cond.code yX5_firstNobody cX5_firstNobody 4 (some .int), Cond.methodLink RX5 56 yX5_people, Cond.instanceMethod yX5_people, Cond.selects RX5 yX5_people yX5_people, Cond.code yX5_people cX5_people 1 (some .int), Cond.methodLink RL 26 yX12_fault, Cond.instanceMethod yX12_fault, Cond.selects RX12 yX12_fault yX12_fault, Cond.code yX12_fault cX12_fault 1 (some .int), Cond.methodLink RX12 79 yX12_faultNow, Cond.instanceMethod yX12_faultNow, Cond.selects RX12 yX12_faultNow yX12_faultNow, Cond.code yX12_faultNow cX12_faultNow 4 (some .int), Cond.methodLink RX12 71 yX12_isGood, Cond.instanceMethod yX12_isGood]
def wsL_law_r13 : List Cond := [Cond.selects RX12 yX12_isGood yX12_isGood, Cond.code yX12_isGood cX12_isGood 3 (some .boolean), Cond.methodLink RX12 67 yX12_kindBy, Cond.static yX12_kindBy, Cond.code yX12_kindBy cX12_kindBy 1 (some .int), Cond.methodLink RX12 75 yX12_isWhole, Cond.instanceMethod yX12_isWhole, Cond.selects RX12 yX12_isWhole yX12_isWhole, Cond.code yX12_isWhole cX12_isWhole 1 (some .boolean), Cond.methodLink RL 27 yX11_town, Cond.instanceMethod yX11_town, Cond.selects RX11 yX11_town yX11_town, Cond.code yX11_town cX11_town 1 (some .int), Cond.fieldLink RX11 71 "SpeltByFriends" "townsRead" "I", Cond.fieldLink RX11 74 "SpeltByFriends$Town" "size" "I", Cond.methodLink RX11 63 yX5_isTown, Cond.instanceMethod yX5_isTown, Cond.selects RX5 yX5_isTown yX5_isTown, Cond.code yX5_isTown cX5_isTown 1 (some .boolean), Cond.methodLink RX5 27 yX5_firstFault, Cond.methodLink RX11 67 yX9_settle, Cond.instanceMethod yX9_settle, Cond.selects RX9 yX9_settle yX9_settle, Cond.code yX9_settle cX9_settle 4 none]
def wsL_law_r14 : List Cond := [Cond.methodLink RX9 50 Lib.Math.min.name, Cond.fieldLink RX9 56 "SpeltByFriends$Town" "size" "I", Cond.fieldLink RX9 64 "SpeltByFriends$Ledger" "firstHolder" "[I", Cond.fieldLink RX9 75 "SpeltByFriends$Ledger" "lastHolder" "[I", Cond.methodLink RX9 42 yX3_clear, Cond.instanceMethod yX3_clear, Cond.selects RX3 yX3_clear yX3_clear, Cond.code yX3_clear cX3_clear 2 none, Cond.fieldLink RX3 34 "SpeltByFriends$Ledger" "rooms" "I", Cond.fieldLink RX3 38 "SpeltByFriends$Ledger" "heard" "I", Cond.fieldLink RX3 41 "SpeltByFriends$Ledger" "went" "I", Cond.fieldLink RX3 44 "SpeltByFriends$Ledger" "sold" "I", Cond.methodLink RX9 45 yX5_people, Cond.methodLink RX9 60 yX5_kindAt, Cond.methodLink RX9 68 yX5_digitAt, Cond.methodLink RL 30 yX12_town, Cond.instanceMethod yX12_town, Cond.selects RX12 yX12_town yX12_town, Cond.code yX12_town cX12_town 2 (some .int), Cond.fieldLink RX12 83 "SpeltByFriendsModel" "people" "I", Cond.fieldLink RX12 86 "SpeltByFriendsModel" "towns" "I", Cond.fieldLink RX12 89 "SpeltByFriendsModel" "went" "I", Cond.fieldLink RX12 92 "SpeltByFriendsModel" "sold" "I", Cond.fieldLink RX12 95 "SpeltByFriendsModel" "heard" "I"]
def wsL_law_r15 : List Cond := [Cond.methodLink RL 31 yX11_about, Cond.instanceMethod yX11_about, Cond.selects RX11 yX11_about yX11_about, Cond.code yX11_about cX11_about 3 (some .int), Cond.methodLink RX11 77 yX9_has, Cond.instanceMethod yX9_has, Cond.selects RX9 yX9_has yX9_has, Cond.code yX9_has cX9_has 2 (some .boolean), Cond.methodLink RX11 80 yX11_tellAbout, Cond.instanceMethod yX11_tellAbout, Cond.selects RX11 yX11_tellAbout yX11_tellAbout, Cond.code yX11_tellAbout cX11_tellAbout 4 (some .int), Cond.fieldLink RX11 92 "SpeltByFriends$Town" "ledger" "LSpeltByFriends$Ledger;", Cond.fieldLink RX11 108 "SpeltByFriends$Ledger" "firstHolder" "[I", Cond.fieldLink RX11 112 "SpeltByFriends$Ledger" "lastHolder" "[I", Cond.fieldLink RX11 95 "SpeltByFriends$Ledger" "rooms" "I", Cond.fieldLink RX11 126 "SpeltByFriends$Ledger" "foes" "[I", Cond.methodLink RX11 219 yX9_kindOf, Cond.instanceMethod yX9_kindOf, Cond.selects RX9 yX9_kindOf yX9_kindOf, Cond.code yX9_kindOf cX9_kindOf 3 (some .int), Cond.fieldLink RX9 89 "SpeltByFriends$Person" "kind" "I", Cond.methodLink RX9 85 yX9_personAt, Cond.instanceMethod yX9_personAt]
def wsL_law_r16 : List Cond := [Cond.selects RX9 yX9_personAt yX9_personAt, Cond.code yX9_personAt cX9_personAt 2 (some (.object "SpeltByFriends$Person")), Cond.methodLink RX9 82 yX9_has, Cond.methodLink RX11 115 yX11_at, Cond.methodLink RX11 98 yX11_roomIn, Cond.static yX11_roomIn, Cond.code yX11_roomIn cX11_roomIn 2 (some .int), Cond.methodLink RX11 239 yX11_shiftOf, Cond.static yX11_shiftOf, Cond.code yX11_shiftOf cX11_shiftOf 1 (some .int), Cond.methodLink RX11 222 yX9_companyIn, Cond.instanceMethod yX9_companyIn, Cond.selects RX9 yX9_companyIn yX9_companyIn, Cond.code yX9_companyIn cX9_companyIn 6 (some .int), Cond.methodLink RX11 137 yX9_canWrite, Cond.instanceMethod yX9_canWrite, Cond.selects RX9 yX9_canWrite yX9_canWrite, Cond.code yX9_canWrite cX9_canWrite 3 (some .boolean), Cond.methodLink RX9 99 yX9_couldWrite, Cond.instanceMethod yX9_couldWrite, Cond.selects RX9 yX9_couldWrite yX9_couldWrite, Cond.code yX9_couldWrite cX9_couldWrite 11 (some .boolean), Cond.fieldLink RX9 103 "SpeltByFriends$Ledger" "foes" "[I", Cond.methodLink RX9 106 ⟨"SpeltByFriends$Person", "isSpelt", "(ZZII)Z"⟩]
def wsL_law_r17 : List Cond := [Cond.sameMethod "SpeltByFriends$Person" "SpeltByFriends$Person" "isSpelt" "(ZZII)Z", Cond.instanceMethod ⟨"SpeltByFriends$Person", "isSpelt", "(ZZII)Z"⟩, Cond.selects RX0 ⟨"SpeltByFriends$Person", "isSpelt", "(ZZII)Z"⟩ yX0_isSpelt, Cond.instanceMethod yX0_isSpelt, Cond.code yX0_isSpelt cX0_isSpelt 5 (some .boolean), Cond.code yX6_isSpelt cX6_isSpelt 5 (some .boolean), Cond.selects RX2 ⟨"SpeltByFriends$Person", "isSpelt", "(ZZII)Z"⟩ yX2_isSpelt, Cond.instanceMethod yX2_isSpelt, Cond.code yX2_isSpelt cX2_isSpelt 5 (some .boolean), Cond.methodLink RX9 106 yX6_isSpelt, Cond.instanceMethod yX6_isSpelt, Cond.selects RX6 yX6_isSpelt yX6_isSpelt, Cond.selects RX8 ⟨"SpeltByFriends$Person", "isSpelt", "(ZZII)Z"⟩ yX8_isSpelt, Cond.instanceMethod yX8_isSpelt, Cond.code yX8_isSpelt cX8_isSpelt 5 (some .boolean), Cond.selects RX10 ⟨"SpeltByFriends$Person", "isSpelt", "(ZZII)Z"⟩ yX10_isSpelt, Cond.instanceMethod yX10_isSpelt, Cond.code yX10_isSpelt cX10_isSpelt 5 (some .boolean), Cond.methodLink RX11 225 yX9_lettersOfOthers, Cond.instanceMethod yX9_lettersOfOthers, Cond.selects RX9 yX9_lettersOfOthers yX9_lettersOfOthers, Cond.code yX9_lettersOfOthers cX9_lettersOfOthers 4 (some .int), Cond.methodLink RX11 228 yX9_wants, Cond.instanceMethod yX9_wants]
def wsL_law_r18 : List Cond := [Cond.selects RX9 yX9_wants yX9_wants, Cond.code yX9_wants cX9_wants 4 (some .int), Cond.methodLink RX9 113 yX9_canWrite, Cond.methodLink RL 35 yX12_about, Cond.instanceMethod yX12_about, Cond.selects RX12 yX12_about yX12_about, Cond.code yX12_about cX12_about 3 (some .int), Cond.methodLink RX12 124 yX12_isOne, Cond.instanceMethod yX12_isOne, Cond.selects RX12 yX12_isOne yX12_isOne, Cond.code yX12_isOne cX12_isOne 2 (some .boolean), Cond.methodLink RX12 127 yX12_oneNow, Cond.instanceMethod yX12_oneNow, Cond.selects RX12 yX12_oneNow yX12_oneNow, Cond.code yX12_oneNow cX12_oneNow 3 (some .int), Cond.methodLink RX12 115 yX12_isWrittenNow, Cond.instanceMethod yX12_isWrittenNow, Cond.selects RX12 yX12_isWrittenNow yX12_isWrittenNow, Cond.code yX12_isWrittenNow cX12_isWrittenNow 2 (some .boolean), Cond.methodLink RX12 109 yX12_companyOf, Cond.instanceMethod yX12_companyOf, Cond.selects RX12 yX12_companyOf yX12_companyOf, Cond.code yX12_companyOf cX12_companyOf 4 (some .int), Cond.methodLink RX12 112 yX12_isWritten]
def wsL_law_r19 : List Cond := [Cond.instanceMethod yX12_isWritten, Cond.selects RX12 yX12_isWritten yX12_isWritten, Cond.code yX12_isWritten cX12_isWritten 3 (some .boolean), Cond.methodLink RX12 105 yX12_isWrittenBy, Cond.instanceMethod yX12_isWrittenBy, Cond.selects RX12 yX12_isWrittenBy yX12_isWrittenBy, Cond.code yX12_isWrittenBy cX12_isWrittenBy 7 (some .boolean), Cond.methodLink RX12 102 yX12_isThere, Cond.instanceMethod yX12_isThere, Cond.selects RX12 yX12_isThere yX12_isThere, Cond.code yX12_isThere cX12_isThere 4 (some .boolean), Cond.methodLink RX12 98 yX12_isIn, Cond.static yX12_isIn, Cond.code yX12_isIn cX12_isIn 2 (some .boolean), Cond.methodLink RX12 118 yX12_lettersOf, Cond.instanceMethod yX12_lettersOf, Cond.selects RX12 yX12_lettersOf yX12_lettersOf, Cond.code yX12_lettersOf cX12_lettersOf 4 (some .int), Cond.methodLink RX12 121 yX12_wantsOf, Cond.instanceMethod yX12_wantsOf, Cond.selects RX12 yX12_wantsOf yX12_wantsOf, Cond.code yX12_wantsOf cX12_wantsOf 4 (some .int), Cond.methodLink RL 36 yX11_as, Cond.instanceMethod yX11_as]
def wsL_law_r20 : List Cond := [Cond.selects RX11 yX11_as yX11_as, Cond.code yX11_as cX11_as 3 (some .int), Cond.methodLink RX11 84 yX9_personAt, Cond.methodLink RX11 88 yX11_isOfKind, Cond.static yX11_isOfKind, Cond.code yX11_isOfKind cX11_isOfKind 2 (some .boolean), Cond.classLink RX11 231 "SpeltByFriends$Hermit", Cond.classLink RX11 233 "SpeltByFriends$Forger", Cond.classLink RX11 235 "SpeltByFriends$Proud", Cond.classLink RX11 237 "SpeltByFriends$Twin", Cond.methodLink RL 39 yX12_as, Cond.instanceMethod yX12_as, Cond.selects RX12 yX12_as yX12_as, Cond.code yX12_as cX12_as 4 (some .int), Cond.methodLink RL 40 yX11_go, Cond.instanceMethod yX11_go, Cond.selects RX11 yX11_go yX11_go, Cond.code yX11_go cX11_go 5 (some .int), Cond.fieldLink RX11 105 "SpeltByFriends$Ledger" "went" "I", Cond.methodLink RX11 101 yX11_withRoom, Cond.static yX11_withRoom, Cond.code yX11_withRoom cX11_withRoom 4 (some .int), Cond.methodLink RL 43 yX12_go, Cond.instanceMethod yX12_go]
def wsL_law_r21 : List Cond := [Cond.selects RX12 yX12_go yX12_go, Cond.code yX12_go cX12_go 4 (some .int), Cond.methodLink RL 44 yX11_sell, Cond.instanceMethod yX11_sell, Cond.selects RX11 yX11_sell yX11_sell, Cond.code yX11_sell cX11_sell 7 (some .int), Cond.fieldLink RX11 123 "SpeltByFriends$Ledger" "sold" "I", Cond.methodLink RX11 119 yX11_put, Cond.methodLink RL 48 yX12_sell, Cond.instanceMethod yX12_sell, Cond.selects RX12 yX12_sell yX12_sell, Cond.code yX12_sell cX12_sell 5 (some .int), Cond.methodLink RL 49 yX11_quarrel, Cond.instanceMethod yX11_quarrel, Cond.selects RX11 yX11_quarrel yX11_quarrel, Cond.code yX11_quarrel cX11_quarrel 6 (some .int), Cond.methodLink RX11 129 yX3_setFoe, Cond.instanceMethod yX3_setFoe, Cond.selects RX3 yX3_setFoe yX3_setFoe, Cond.code yX3_setFoe cX3_setFoe 5 none, Cond.methodLink RL 53 yX12_quarrel, Cond.instanceMethod yX12_quarrel, Cond.selects RX12 yX12_quarrel yX12_quarrel, Cond.code yX12_quarrel cX12_quarrel 5 (some .int)]
def wsL_law_r22 : List Cond := [Cond.methodLink RX12 131 yX12_with, Cond.static yX12_with, Cond.code yX12_with cX12_with 3 (some .int), Cond.methodLink RL 54 yX11_written, Cond.instanceMethod yX11_written, Cond.selects RX11 yX11_written yX11_written, Cond.code yX11_written cX11_written 3 (some .int), Cond.methodLink RX11 133 yX9_isCompanyOf, Cond.instanceMethod yX9_isCompanyOf, Cond.selects RX9 yX9_isCompanyOf yX9_isCompanyOf, Cond.code yX9_isCompanyOf cX9_isCompanyOf 3 (some .boolean), Cond.methodLink RX9 78 yX9_isSetOfPeople, Cond.instanceMethod yX9_isSetOfPeople, Cond.selects RX9 yX9_isSetOfPeople yX9_isSetOfPeople, Cond.code yX9_isSetOfPeople cX9_isSetOfPeople 2 (some .boolean), Cond.methodLink RL 57 yX12_written, Cond.instanceMethod yX12_written, Cond.selects RX12 yX12_written yX12_written, Cond.code yX12_written cX12_written 3 (some .int), Cond.methodLink RX12 135 yX12_isCompany, Cond.instanceMethod yX12_isCompany, Cond.selects RX12 yX12_isCompany yX12_isCompany, Cond.code yX12_isCompany cX12_isCompany 2 (some .boolean), Cond.methodLink RL 58 yX11_moves]
def wsL_law_r23 : List Cond := [Cond.instanceMethod yX11_moves, Cond.selects RX11 yX11_moves yX11_moves, Cond.code yX11_moves cX11_moves 4 (some .int), Cond.fieldLink RX11 140 "SpeltByFriends" "movesDone" "I", Cond.fieldLink RX11 147 "SpeltByFriends$Plans" "bestRooms" "I", Cond.methodLink RX11 143 yX7_planMoves, Cond.instanceMethod yX7_planMoves, Cond.selects RX7 yX7_planMoves yX7_planMoves, Cond.code yX7_planMoves cX7_planMoves 8 (some .int), Cond.fieldLink RX7 18 "SpeltByFriends$Town" "size" "I", Cond.fieldLink RX7 24 "SpeltByFriends$Town" "ledger" "LSpeltByFriends$Ledger;", Cond.fieldLink RX7 28 "SpeltByFriends$Ledger" "rooms" "I", Cond.fieldLink RX7 44 "SpeltByFriends$Plans" "bestRooms" "I", Cond.methodLink RX7 33 yX7_howManyDiffer, Cond.static yX7_howManyDiffer, Cond.code yX7_howManyDiffer cX7_howManyDiffer 3 (some .int), Cond.methodLink RX7 47 yJ6_bitCount_0f7a4, Cond.static yJ6_bitCount_0f7a4, Cond.initialized RJ6, Cond.code yJ6_bitCount_0f7a4 cJ6_bitCount_0f7a4 1 (some .int), Cond.constant RJ6 265 (1431655765), Cond.constant RJ6 266 (858993459), Cond.constant RJ6 267 (252645135), Cond.methodLink RX7 37 yX9_companyIn]
def wsL_law_r24 : List Cond := [Cond.methodLink RX7 40 yX9_canWrite, Cond.methodLink RL 61 yX12_moves, Cond.instanceMethod yX12_moves, Cond.selects RX12 yX12_moves yX12_moves, Cond.code yX12_moves cX12_moves 3 (some .int), Cond.fieldLink RX12 148 "SpeltByFriendsModel" "moveAsks" "I", Cond.methodLink RX12 151 yX12_movesNow, Cond.instanceMethod yX12_movesNow, Cond.selects RX12 yX12_movesNow yX12_movesNow, Cond.code yX12_movesNow cX12_movesNow 7 (some .int), Cond.constant RX12 141 (268435456), Cond.methodLink RX12 142 yX12_movesBy, Cond.instanceMethod yX12_movesBy, Cond.selects RX12 yX12_movesBy yX12_movesBy, Cond.code yX12_movesBy cX12_movesBy 4 (some .int), Cond.methodLink RX12 138 yX12_roomBy, Cond.instanceMethod yX12_roomBy, Cond.selects RX12 yX12_roomBy yX12_roomBy, Cond.code yX12_roomBy cX12_roomBy 3 (some .int), Cond.methodLink RX12 145 yX12_isWrittenIf, Cond.instanceMethod yX12_isWrittenIf, Cond.selects RX12 yX12_isWrittenIf yX12_isWrittenIf, Cond.code yX12_isWrittenIf cX12_isWrittenIf 5 (some .boolean), Cond.methodLink RL 62 yX11_days]
def wsL_law_r25 : List Cond := [Cond.instanceMethod yX11_days, Cond.selects RX11 yX11_days yX11_days, Cond.code yX11_days cX11_days 4 (some .int), Cond.fieldLink RX11 153 "SpeltByFriends" "daysDone" "I", Cond.fieldLink RX11 159 "SpeltByFriends$Plans" "companies" "[I", Cond.methodLink RX11 150 yX9_isSetOfPeople, Cond.methodLink RX11 156 yX7_planDays, Cond.instanceMethod yX7_planDays, Cond.selects RX7 yX7_planDays yX7_planDays, Cond.code yX7_planDays cX7_planDays 4 (some .int), Cond.fieldLink RX7 53 "SpeltByFriends$Plans" "companiesEnd" "I", Cond.methodLink RX7 56 yX7_whoIsWritten, Cond.instanceMethod yX7_whoIsWritten, Cond.selects RX7 yX7_whoIsWritten yX7_whoIsWritten, Cond.code yX7_whoIsWritten cX7_whoIsWritten 5 (some .int), Cond.methodLink RX7 64 yX7_cover, Cond.instanceMethod yX7_cover, Cond.selects RX7 yX7_cover yX7_cover, Cond.code yX7_cover cX7_cover 6 (some .boolean), Cond.methodLink RL 65 yX12_days, Cond.instanceMethod yX12_days, Cond.selects RX12 yX12_days yX12_days, Cond.code yX12_days cX12_days 3 (some .int), Cond.fieldLink RX12 160 "SpeltByFriendsModel" "dayAsks" "I"]
def wsL_law_r26 : List Cond := [Cond.methodLink RX12 163 yX12_daysNow, Cond.instanceMethod yX12_daysNow, Cond.selects RX12 yX12_daysNow yX12_daysNow, Cond.code yX12_daysNow cX12_daysNow 5 (some .int), Cond.methodLink RX12 154 yX12_layWritten, Cond.instanceMethod yX12_layWritten, Cond.selects RX12 yX12_layWritten yX12_layWritten, Cond.code yX12_layWritten cX12_layWritten 3 none, Cond.methodLink RX12 157 yX12_writtenBy, Cond.instanceMethod yX12_writtenBy, Cond.selects RX12 yX12_writtenBy yX12_writtenBy, Cond.code yX12_writtenBy cX12_writtenBy 7 (some .int), Cond.methodLink RL 66 yX11_hear, Cond.instanceMethod yX11_hear, Cond.selects RX11 yX11_hear yX11_hear, Cond.code yX11_hear cX11_hear 5 (some .int), Cond.fieldLink RX11 162 "SpeltByFriends$Ledger" "heard" "I", Cond.methodLink RX11 165 yX3_addHeard, Cond.instanceMethod yX3_addHeard, Cond.selects RX3 yX3_addHeard yX3_addHeard, Cond.code yX3_addHeard cX3_addHeard 4 none, Cond.methodLink RL 69 yX12_hear, Cond.instanceMethod yX12_hear, Cond.selects RX12 yX12_hear yX12_hear]
def wsL_law_r27 : List Cond := [Cond.code yX12_hear cX12_hear 4 (some .int), Cond.methodLink RL 70 yX11_forget, Cond.instanceMethod yX11_forget, Cond.selects RX11 yX11_forget yX11_forget, Cond.code yX11_forget cX11_forget 2 (some .int), Cond.methodLink RL 73 yX12_forget, Cond.instanceMethod yX12_forget, Cond.selects RX12 yX12_forget yX12_forget, Cond.code yX12_forget cX12_forget 2 (some .int), Cond.methodLink RL 74 yX11_holders, Cond.instanceMethod yX11_holders, Cond.selects RX11 yX11_holders yX11_holders, Cond.code yX11_holders cX11_holders 3 (some .int), Cond.fieldLink RX11 172 "SpeltByFriends$Guesses" "many" "I", Cond.methodLink RX11 168 yX1_gather, Cond.instanceMethod yX1_gather, Cond.selects RX1 yX1_gather yX1_gather, Cond.code yX1_gather cX1_gather 5 none, Cond.fieldLink RX1 18 "SpeltByFriends$Guesses" "person" "I", Cond.fieldLink RX1 22 "SpeltByFriends$Guesses" "many" "I", Cond.fieldLink RX1 25 "SpeltByFriends$Town" "size" "I", Cond.methodLink RX1 30 yX1_agrees, Cond.instanceMethod yX1_agrees, Cond.selects RX1 yX1_agrees yX1_agrees]
def wsL_law_r28 : List Cond := [Cond.code yX1_agrees cX1_agrees 7 (some .boolean), Cond.fieldLink RX1 38 "SpeltByFriends$Town" "ledger" "LSpeltByFriends$Ledger;", Cond.fieldLink RX1 42 "SpeltByFriends$Ledger" "heard" "I", Cond.fieldLink RX1 47 "SpeltByFriends$Ledger" "heardOf" "[I", Cond.fieldLink RX1 54 "SpeltByFriends$Ledger" "heardIn" "[I", Cond.fieldLink RX1 61 "SpeltByFriends$Ledger" "heardYes" "[I", Cond.methodLink RX1 57 yX9_couldWrite, Cond.methodLink RX11 175 yX1_least, Cond.instanceMethod yX1_least, Cond.selects RX1 yX1_least yX1_least, Cond.code yX1_least cX1_least 1 (some .int), Cond.methodLink RL 77 yX12_holders, Cond.instanceMethod yX12_holders, Cond.selects RX12 yX12_holders yX12_holders, Cond.code yX12_holders cX12_holders 3 (some .int), Cond.methodLink RX12 169 yX12_holdersNow, Cond.instanceMethod yX12_holdersNow, Cond.selects RX12 yX12_holdersNow yX12_holdersNow, Cond.code yX12_holdersNow cX12_holdersNow 7 (some .int), Cond.methodLink RX12 166 yX12_couldHold, Cond.instanceMethod yX12_couldHold, Cond.selects RX12 yX12_couldHold yX12_couldHold, Cond.code yX12_couldHold cX12_couldHold 6 (some .boolean), Cond.methodLink RL 78 yX11_invite]
def wsL_law_r29 : List Cond := [Cond.instanceMethod yX11_invite, Cond.selects RX11 yX11_invite yX11_invite, Cond.code yX11_invite cX11_invite 2 (some .int), Cond.methodLink RX11 178 yX1_bestCompany, Cond.instanceMethod yX1_bestCompany, Cond.selects RX1 yX1_bestCompany yX1_bestCompany, Cond.code yX1_bestCompany cX1_bestCompany 6 (some .int), Cond.methodLink RX1 64 yX9_isCompanyOf, Cond.methodLink RX1 68 yX1_leftAtWorst, Cond.instanceMethod yX1_leftAtWorst, Cond.selects RX1 yX1_leftAtWorst yX1_leftAtWorst, Cond.code yX1_leftAtWorst cX1_leftAtWorst 5 (some .int), Cond.methodLink RX1 72 Lib.Math.max.name, Cond.methodLink RL 81 yX12_invite, Cond.instanceMethod yX12_invite, Cond.selects RX12 yX12_invite yX12_invite, Cond.code yX12_invite cX12_invite 2 (some .int), Cond.methodLink RX12 175 yX12_inviteNow, Cond.instanceMethod yX12_inviteNow, Cond.selects RX12 yX12_inviteNow yX12_inviteNow, Cond.code yX12_inviteNow cX12_inviteNow 8 (some .int), Cond.methodLink RX12 172 yX12_writtenWays, Cond.instanceMethod yX12_writtenWays, Cond.selects RX12 yX12_writtenWays yX12_writtenWays]
def wsL_law_r30 : List Cond := [Cond.code yX12_writtenWays cX12_writtenWays 7 (some .int), Cond.methodLink RL 82 yX11_years, Cond.instanceMethod yX11_years, Cond.selects RX11 yX11_years yX11_years, Cond.code yX11_years cX11_years 4 (some .int), Cond.fieldLink RX11 186 "SpeltByFriends$Lottery" "together" "I", Cond.fieldLink RX11 189 "SpeltByFriends$Lottery" "inTheEnd" "I", Cond.fieldLink RX11 192 "SpeltByFriends$Lottery" "seed" "I", Cond.methodLink RX11 182 yX4_play, Cond.instanceMethod yX4_play, Cond.selects RX4 yX4_play yX4_play, Cond.code yX4_play cX4_play 7 none, Cond.fieldLink RX4 9 "SpeltByFriends$Lottery" "seed" "I", Cond.fieldLink RX4 15 "SpeltByFriends$Lottery" "together" "I", Cond.fieldLink RX4 18 "SpeltByFriends$Town" "ledger" "LSpeltByFriends$Ledger;", Cond.fieldLink RX4 24 "SpeltByFriends$Ledger" "rooms" "I", Cond.fieldLink RX4 29 "SpeltByFriends$Town" "size" "I", Cond.fieldLink RX4 43 "SpeltByFriends$Lottery" "inTheEnd" "I", Cond.methodLink RX4 32 yX4_draw, Cond.instanceMethod yX4_draw, Cond.selects RX4 yX4_draw yX4_draw, Cond.code yX4_draw cX4_draw 2 (some .int), Cond.constantLong RX4 46 (1103515245), Cond.constantLong RX4 48 (12345)]
def wsL_law_r31 : List Cond := [Cond.constantLong RX4 50 (2147483647), Cond.methodLink RX4 40 yX9_howManyWritten, Cond.instanceMethod yX9_howManyWritten, Cond.selects RX9 yX9_howManyWritten yX9_howManyWritten, Cond.code yX9_howManyWritten cX9_howManyWritten 4 (some .int), Cond.methodLink RX9 110 yX9_companyIn, Cond.methodLink RL 85 yX12_years, Cond.instanceMethod yX12_years, Cond.selects RX12 yX12_years yX12_years, Cond.code yX12_years cX12_years 4 (some .int), Cond.methodLink RX12 196 yX12_yearsNow, Cond.instanceMethod yX12_yearsNow, Cond.selects RX12 yX12_yearsNow yX12_yearsNow, Cond.code yX12_yearsNow cX12_yearsNow 7 (some .int), Cond.fieldLink RX12 180 "SpeltByFriendsModel" "seedNow" "J", Cond.methodLink RX12 190 yX12_draw, Cond.instanceMethod yX12_draw, Cond.selects RX12 yX12_draw yX12_draw, Cond.code yX12_draw cX12_draw 2 (some .int), Cond.constantLong RX12 178 (1103515245), Cond.constantLong RX12 184 (12345), Cond.constantLong RX12 186 (2147483647), Cond.constantLong RX12 188 (65536), Cond.methodLink RX12 193 yX12_writtenAll]
def wsL_law_r32 : List Cond := [Cond.instanceMethod yX12_writtenAll, Cond.selects RX12 yX12_writtenAll yX12_writtenAll, Cond.code yX12_writtenAll cX12_writtenAll 3 (some .int), Cond.methodLink RL 86 yX11_image, Cond.instanceMethod yX11_image, Cond.selects RX11 yX11_image yX11_image, Cond.code yX11_image cX11_image 1 (some .int), Cond.fieldLink RX11 199 "SpeltByFriends" "keptOfTown" "I", Cond.methodLink RX11 195 yX3_copy, Cond.instanceMethod yX3_copy, Cond.selects RX3 yX3_copy yX3_copy, Cond.code yX3_copy cX3_copy 3 none, Cond.methodLink RL 89 yX12_image, Cond.instanceMethod yX12_image, Cond.selects RX12 yX12_image yX12_image, Cond.code yX12_image cX12_image 2 (some .int), Cond.fieldLink RX12 200 "SpeltByFriendsModel" "isKept" "Z", Cond.fieldLink RX12 204 "SpeltByFriendsModel" "keptTown" "I", Cond.fieldLink RX12 207 "SpeltByFriendsModel" "keptWent" "I", Cond.fieldLink RX12 210 "SpeltByFriendsModel" "keptSold" "I", Cond.fieldLink RX12 213 "SpeltByFriendsModel" "keptHeard" "I", Cond.methodLink RL 90 yX11_restore, Cond.instanceMethod yX11_restore, Cond.selects RX11 yX11_restore yX11_restore]
def wsL_law_r33 : List Cond := [Cond.code yX11_restore cX11_restore 1 (some .int), Cond.methodLink RL 93 yX12_restore, Cond.instanceMethod yX12_restore, Cond.selects RX12 yX12_restore yX12_restore, Cond.code yX12_restore cX12_restore 2 (some .int), Cond.methodLink RL 94 yX11_count, Cond.instanceMethod yX11_count, Cond.selects RX11 yX11_count yX11_count, Cond.code yX11_count cX11_count 2 (some .int), Cond.methodLink RX11 202 yX9_howManyWritten, Cond.methodLink RX11 206 yX9_quarrellingPairs, Cond.instanceMethod yX9_quarrellingPairs, Cond.selects RX9 yX9_quarrellingPairs yX9_quarrellingPairs, Cond.code yX9_quarrellingPairs cX9_quarrellingPairs 3 (some .int), Cond.methodLink RX9 117 yJ6_bitCount_0f7a4, Cond.methodLink RL 97 yX12_count, Cond.instanceMethod yX12_count, Cond.selects RX12 yX12_count yX12_count, Cond.code yX12_count cX12_count 2 (some .int), Cond.methodLink RX12 222 yX12_howMany, Cond.instanceMethod yX12_howMany, Cond.selects RX12 yX12_howMany yX12_howMany, Cond.code yX12_howMany cX12_howMany 2 (some .int), Cond.methodLink RX12 219 yX12_pairs]
def wsL_law_r34 : List Cond := [Cond.instanceMethod yX12_pairs, Cond.selects RX12 yX12_pairs yX12_pairs, Cond.code yX12_pairs cX12_pairs 3 (some .int), Cond.methodLink RX12 216 yX12_size, Cond.static yX12_size, Cond.code yX12_size cX12_size 3 (some .int), Cond.methodLink RL 98 yX11_digest, Cond.instanceMethod yX11_digest, Cond.selects RX11 yX11_digest yX11_digest, Cond.code yX11_digest cX11_digest 5 (some .long), Cond.constantLong RX11 209 (983), Cond.constantLong RX11 211 (31), Cond.fieldLink RX11 213 "SpeltByFriends$Page" "letters" "[I", Cond.methodLink RX11 216 yX11_count, Cond.methodLink RL 102 yX12_digest, Cond.instanceMethod yX12_digest, Cond.selects RX12 yX12_digest yX12_digest, Cond.code yX12_digest cX12_digest 3 (some .long), Cond.constantLong RX12 230 (983), Cond.fieldLink RX12 227 "SpeltByFriendsModel" "h" "J", Cond.methodLink RX12 232 yX12_mix, Cond.instanceMethod yX12_mix, Cond.selects RX12 yX12_mix yX12_mix, Cond.code yX12_mix cX12_mix 3 none]
def wsL_law_r35 : List Cond := [Cond.constantLong RX12 225 (31)]
def wsL_law : List Cond := (wsL_law_r1 ++ (wsL_law_r2 ++ (wsL_law_r3 ++ (wsL_law_r4 ++ (wsL_law_r5 ++ (wsL_law_r6 ++ (wsL_law_r7 ++ (wsL_law_r8 ++ (wsL_law_r9 ++ (wsL_law_r10 ++ (wsL_law_r11 ++ (wsL_law_r12 ++ (wsL_law_r13 ++ (wsL_law_r14 ++ (wsL_law_r15 ++ (wsL_law_r16 ++ (wsL_law_r17 ++ (wsL_law_r18 ++ (wsL_law_r19 ++ (wsL_law_r20 ++ (wsL_law_r21 ++ (wsL_law_r22 ++ (wsL_law_r23 ++ (wsL_law_r24 ++ (wsL_law_r25 ++ (wsL_law_r26 ++ (wsL_law_r27 ++ (wsL_law_r28 ++ (wsL_law_r29 ++ (wsL_law_r30 ++ (wsL_law_r31 ++ (wsL_law_r32 ++ (wsL_law_r33 ++ (wsL_law_r34 ++ wsL_law_r35)))))))))))))))))))))))))))))))))) ++ wsX110 ++ wsX120 ++ wsX50 ++ wsX90 ++ wsX30 ++ wsX70 ++ wsX10 ++ wsX40 ++ wsX60 ++ wsX20 ++ wsX00 ++ wsX80 ++ wsX100 ++ ([] : List Cond)
abbrev vwCl : List vw_C := [(RX0, TX0, 1), (RX1, TX1, 4), (RX2, TX2, 1), (RX3, TX3, 10), (RX4, TX4, 3), (RX5, TX5, 2), (RX6, TX6, 1), (RX7, TX7, 4), (RX8, TX8, 1), (RX9, TX9, 4), (RX10, TX10, 1), (RX11, TX11, 10), (RX12, TX12, 31)]
end
section
set_option maxRecDepth 20000 in
theorem ggX0_init_X6_init : GoodIn wsX0_init wsX6_init := goodIn_r _ [4, 5, 6, 7, 8, 9, 10, 11, 12, 13] (by decide +kernel) (by decide +kernel)
set_option maxRecDepth 20000 in
theorem gX0_init_X6_init : GoodIn wsX0_init (wsX6_init) := ggX0_init_X6_init
set_option maxRecDepth 20000 in
theorem ggX1_gather_X1_agrees : GoodIn wsX1_gather wsX1_agrees := goodIn_r _ [10, 11, 12, 13, 1, 14, 15, 16, 17, 18, 19, 20, 21, 22, 23, 24, 25, 26, 27, 28, 29, 30, 31, 32, 33, 34, 35, 36, 37, 38, 39, 40, 41, 42, 43, 44, 45, 46, 47, 48, 49, 50, 51, 52, 53, 54, 55, 56, 57, 58, 59, 66, 67, 68, 69, 70, 71, 72, 73, 74, 75, 76, 77, 78, 79, 62, 63, 64, 65] (by decide +kernel) (by decide +kernel)
set_option maxRecDepth 20000 in
theorem gX1_gather_X1_agrees : GoodIn wsX1_gather (wsV RX1 30 RX1 yX1_agrees wsX1_agrees) := goodIn_app (goodIn_of _ (by decide +kernel)) ggX1_gather_X1_agrees
set_option maxRecDepth 20000 in
theorem ggX1_gather_X11_put : GoodIn wsX1_gather wsX11_put := goodIn_r _ [61] (by decide +kernel) (by decide +kernel)
set_option maxRecDepth 20000 in
theorem gX1_gather_X11_put_n34 : GoodIn wsX1_gather (wsX11_put) := ggX1_gather_X11_put
set_option maxRecDepth 20000 in
theorem ggX1_agrees_X11_at : GoodIn wsX1_agrees wsX11_at := goodIn_r _ [9] (by decide +kernel) (by decide +kernel)
set_option maxRecDepth 20000 in
theorem gX1_agrees_X11_at_n50 : GoodIn wsX1_agrees (wsX11_at) := ggX1_agrees_X11_at
set_option maxRecDepth 20000 in
theorem ggX1_agrees_X9_couldWrite : GoodIn wsX1_agrees wsX9_couldWrite := goodIn_r _ [14, 15, 16, 17, 18, 19, 13, 20, 21, 22, 23, 24, 25, 26, 7, 8, 9, 27, 28, 29, 30, 31, 32, 33, 34, 35, 36, 37, 38, 39, 40, 41, 42, 43, 44, 45, 46, 47, 48, 49, 50, 51, 52, 53, 54, 55, 56, 57, 58, 59, 60, 61, 62, 63, 64] (by decide +kernel) (by decide +kernel)
set_option maxRecDepth 20000 in
theorem gX1_agrees_X9_couldWrite : GoodIn wsX1_agrees (wsV RX1 57 RX9 yX9_couldWrite wsX9_couldWrite) := goodIn_app (goodIn_of _ (by decide +kernel)) ggX1_agrees_X9_couldWrite
set_option maxRecDepth 20000 in
theorem ggX1_least_X11_at : GoodIn wsX1_least wsX11_at := goodIn_r _ [6] (by decide +kernel) (by decide +kernel)
set_option maxRecDepth 20000 in
theorem gX1_least_X11_at_n50 : GoodIn wsX1_least (wsX11_at) := ggX1_least_X11_at
set_option maxRecDepth 20000 in
theorem ggX1_bestCompany_X9_isCompanyOf : GoodIn wsX1_bestCompany wsX9_isCompanyOf := goodIn_r _ [8, 9, 10, 11, 7, 12, 13, 71, 72, 73, 74] (by decide +kernel) (by decide +kernel)
set_option maxRecDepth 20000 in
theorem gX1_bestCompany_X9_isCompanyOf : GoodIn wsX1_bestCompany (wsV RX1 64 RX9 yX9_isCompanyOf wsX9_isCompanyOf) := goodIn_app (goodIn_of _ (by decide +kernel)) ggX1_bestCompany_X9_isCompanyOf
set_option maxRecDepth 20000 in
theorem ggX1_bestCompany_X1_leftAtWorst : GoodIn wsX1_bestCompany wsX1_leftAtWorst := goodIn_r _ [18, 1, 3, 19, 20, 21, 22, 23, 24, 25, 26, 27, 28, 29, 30, 7, 31, 32, 33, 34, 35, 36, 37, 38, 39, 40, 41, 42, 13, 43, 44, 45, 46, 47, 48, 49, 50, 51, 52, 53, 54, 55, 56, 57, 58, 59, 60, 61, 62, 63, 64, 65, 66, 67, 68, 69, 70, 71, 72, 73, 74, 75, 76, 77, 78, 79, 80, 81, 82, 83, 84] (by decide +kernel) (by decide +kernel)
set_option maxRecDepth 20000 in
theorem gX1_bestCompany_X1_leftAtWorst : GoodIn wsX1_bestCompany (wsV RX1 68 RX1 yX1_leftAtWorst wsX1_leftAtWorst) := goodIn_app (goodIn_of _ (by decide +kernel)) ggX1_bestCompany_X1_leftAtWorst
set_option maxRecDepth 20000 in
theorem ggX1_leftAtWorst_X11_at : GoodIn wsX1_leftAtWorst wsX11_at := goodIn_r _ [11] (by decide +kernel) (by decide +kernel)
set_option maxRecDepth 20000 in
theorem gX1_leftAtWorst_X11_at_n50 : GoodIn wsX1_leftAtWorst (wsX11_at) := ggX1_leftAtWorst_X11_at
set_option maxRecDepth 20000 in
theorem ggX1_leftAtWorst_X9_couldWrite : GoodIn wsX1_leftAtWorst wsX9_couldWrite := goodIn_r _ [16, 17, 18, 19, 20, 21, 15, 22, 23, 24, 25, 26, 27, 28, 9, 10, 11, 29, 30, 31, 32, 33, 34, 35, 36, 37, 38, 39, 40, 41, 42, 43, 44, 45, 46, 47, 48, 49, 50, 51, 52, 57, 58, 59, 60, 61, 62, 63, 64, 65, 66, 67, 68, 69, 70] (by decide +kernel) (by decide +kernel)
set_option maxRecDepth 20000 in
theorem gX1_leftAtWorst_X9_couldWrite : GoodIn wsX1_leftAtWorst (wsV RX1 57 RX9 yX9_couldWrite wsX9_couldWrite) := goodIn_app (goodIn_of _ (by decide +kernel)) ggX1_leftAtWorst_X9_couldWrite
set_option maxRecDepth 20000 in
theorem ggX2_init_X6_init : GoodIn wsX2_init wsX6_init := goodIn_r _ [4, 5, 6, 7, 8, 9, 10, 11, 12, 13] (by decide +kernel) (by decide +kernel)
set_option maxRecDepth 20000 in
theorem gX2_init_X6_init : GoodIn wsX2_init (wsX6_init) := ggX2_init_X6_init
set_option maxRecDepth 20000 in
theorem ggX3_clear_X11_put : GoodIn wsX3_clear wsX11_put := goodIn_r _ [10] (by decide +kernel) (by decide +kernel)
set_option maxRecDepth 20000 in
theorem gX3_clear_X11_put_n30 : GoodIn wsX3_clear (wsX11_put) := ggX3_clear_X11_put
set_option maxRecDepth 20000 in
theorem ggX3_copy_X11_at : GoodIn wsX3_copy wsX11_at := goodIn_r _ [13] (by decide +kernel) (by decide +kernel)
set_option maxRecDepth 20000 in
theorem gX3_copy_X11_at_n47 : GoodIn wsX3_copy (wsX11_at) := ggX3_copy_X11_at
set_option maxRecDepth 20000 in
theorem ggX3_copy_X11_put : GoodIn wsX3_copy wsX11_put := goodIn_r _ [15] (by decide +kernel) (by decide +kernel)
set_option maxRecDepth 20000 in
theorem gX3_copy_X11_put_n30 : GoodIn wsX3_copy (wsX11_put) := ggX3_copy_X11_put
set_option maxRecDepth 20000 in
theorem ggX3_setFoe_X11_at : GoodIn wsX3_setFoe wsX11_at := goodIn_r _ [4] (by decide +kernel) (by decide +kernel)
set_option maxRecDepth 20000 in
theorem gX3_setFoe_X11_at_n47 : GoodIn wsX3_setFoe (wsX11_at) := ggX3_setFoe_X11_at
set_option maxRecDepth 20000 in
theorem ggX3_setFoe_X11_put : GoodIn wsX3_setFoe wsX11_put := goodIn_r _ [6] (by decide +kernel) (by decide +kernel)
set_option maxRecDepth 20000 in
theorem gX3_setFoe_X11_put_n30 : GoodIn wsX3_setFoe (wsX11_put) := ggX3_setFoe_X11_put
set_option maxRecDepth 20000 in
theorem ggX3_addHeard_X11_put : GoodIn wsX3_addHeard wsX11_put := goodIn_r _ [7] (by decide +kernel) (by decide +kernel)
set_option maxRecDepth 20000 in
theorem gX3_addHeard_X11_put_n30 : GoodIn wsX3_addHeard (wsX11_put) := ggX3_addHeard_X11_put
set_option maxRecDepth 20000 in
theorem ggX4_play_X4_draw : GoodIn wsX4_play wsX4_draw := goodIn_r _ [11, 12, 1, 13, 14, 80, 81, 82] (by decide +kernel) (by decide +kernel)
set_option maxRecDepth 20000 in
theorem gX4_play_X4_draw : GoodIn wsX4_play (wsV RX4 32 RX4 yX4_draw wsX4_draw) := goodIn_app (goodIn_of _ (by decide +kernel)) ggX4_play_X4_draw
set_option maxRecDepth 20000 in
theorem ggX4_play_X11_withRoom : GoodIn wsX4_play wsX11_withRoom := goodIn_r _ [17, 18, 19, 16, 20] (by decide +kernel) (by decide +kernel)
set_option maxRecDepth 20000 in
theorem gX4_play_X11_withRoom_n36 : GoodIn wsX4_play (wsX11_withRoom) := ggX4_play_X11_withRoom
set_option maxRecDepth 20000 in
theorem ggX4_play_X9_howManyWritten : GoodIn wsX4_play wsX9_howManyWritten := goodIn_r _ [25, 26, 27, 28, 29, 24, 30, 31, 16, 32, 18, 19, 20, 33, 34, 35, 36, 37, 38, 39, 40, 41, 42, 43, 44, 45, 46, 47, 48, 49, 50, 51, 52, 53, 54, 55, 56, 57, 58, 59, 60, 61, 62, 63, 64, 65, 66, 67, 68, 69, 70, 71, 72, 73, 74, 75, 76, 77, 78, 79, 83, 84, 85, 86, 87, 88, 89, 90, 91, 92, 93, 94, 95, 96] (by decide +kernel) (by decide +kernel)
set_option maxRecDepth 20000 in
theorem gX4_play_X9_howManyWritten : GoodIn wsX4_play (wsV RX4 40 RX9 yX9_howManyWritten wsX9_howManyWritten) := goodIn_app (goodIn_of _ (by decide +kernel)) ggX4_play_X9_howManyWritten
set_option maxRecDepth 20000 in
theorem ggX5_add_X11_put : GoodIn wsX5_add wsX11_put := goodIn_r _ [5] (by decide +kernel) (by decide +kernel)
set_option maxRecDepth 20000 in
theorem gX5_add_X11_put_n19 : GoodIn wsX5_add (wsX11_put) := ggX5_add_X11_put
set_option maxRecDepth 20000 in
theorem ggX5_isTown_X5_isWhole : GoodIn wsX5_isTown wsX5_isWhole := goodIn_r _ [6, 1, 124, 125] (by decide +kernel) (by decide +kernel)
set_option maxRecDepth 20000 in
theorem gX5_isTown_X5_isWhole : GoodIn wsX5_isTown (wsV RX5 23 RX5 yX5_isWhole wsX5_isWhole) := goodIn_app (goodIn_of _ (by decide +kernel)) ggX5_isTown_X5_isWhole
set_option maxRecDepth 20000 in
theorem ggX5_isTown_X5_firstFault : GoodIn wsX5_isTown wsX5_firstFault := goodIn_r _ [10, 1, 11, 12, 13, 5, 14, 15, 16, 17, 18, 19, 20, 21, 22, 23, 24, 25, 26, 27, 28, 29, 30, 31, 32, 33, 34, 35, 36, 37, 38, 39, 40, 41, 42, 43, 44, 45, 46, 47, 48, 49, 50, 51, 52, 53, 54, 55, 56, 57, 58, 59, 60, 61, 62, 63, 64, 65, 66, 67, 68, 69, 70, 71, 72, 73, 74, 75, 76, 77, 78, 79, 80, 81, 82, 83, 84, 85, 86, 87, 88, 89, 90, 91, 92, 93, 94, 95, 96, 97, 98, 99, 100, 101, 102, 103, 104, 105, 106, 107, 108, 109, 110, 111, 112, 113, 114, 115, 2, 3, 4, 6, 116, 117, 118, 119, 120, 121, 122, 123, 124, 125] (by decide +kernel) (by decide +kernel)
set_option maxRecDepth 20000 in
theorem gX5_isTown_X5_firstFault : GoodIn wsX5_isTown (wsV RX5 27 RX5 yX5_firstFault wsX5_firstFault) := goodIn_app (goodIn_of _ (by decide +kernel)) ggX5_isTown_X5_firstFault
set_option maxRecDepth 20000 in
theorem ggX5_kindAt_X11_at : GoodIn wsX5_kindAt wsX11_at := goodIn_r _ [4] (by decide +kernel) (by decide +kernel)
set_option maxRecDepth 20000 in
theorem gX5_kindAt_X11_at_n33 : GoodIn wsX5_kindAt (wsX11_at) := ggX5_kindAt_X11_at
set_option maxRecDepth 20000 in
theorem ggX5_kindAt_J0_indexOf_0f7a4 : GoodIn wsX5_kindAt wsJ0_indexOf_0f7a4 := goodIn_r _ [9, 10, 11, 12, 8, 13, 14, 15, 16, 17, 18, 19, 20, 21, 22, 23, 24, 25, 26, 27, 28, 29, 30, 31, 32, 33, 34, 35, 36, 37, 38, 39, 40, 41, 42, 43, 44, 45, 46, 47, 48, 49, 50, 51, 52, 53, 54, 55, 56, 57, 58, 59, 60, 61, 62, 63, 64, 65, 66, 67, 68, 69, 70, 71, 72, 73, 74, 75, 76, 77, 78, 79, 80, 81, 82, 83, 84, 85, 86, 87, 88, 89, 90, 91, 92, 93] (by decide +kernel) (by decide +kernel)
set_option maxRecDepth 20000 in
theorem gX5_kindAt_J0_indexOf_0f7a4 : GoodIn wsX5_kindAt (wsV RX5 37 RJ0 yJ0_indexOf_0f7a4 wsJ0_indexOf_0f7a4) := goodIn_app (goodIn_of _ (by decide +kernel)) ggX5_kindAt_J0_indexOf_0f7a4
set_option maxRecDepth 20000 in
theorem ggX5_digitAt_X11_at : GoodIn wsX5_digitAt wsX11_at := goodIn_r _ [4] (by decide +kernel) (by decide +kernel)
set_option maxRecDepth 20000 in
theorem gX5_digitAt_X11_at_n33 : GoodIn wsX5_digitAt (wsX11_at) := ggX5_digitAt_X11_at
set_option maxRecDepth 20000 in
theorem ggX5_firstFault_X5_fits : GoodIn wsX5_firstFault wsX5_fits := goodIn_r _ [6, 7, 8, 9, 10, 5, 11, 12, 13, 14, 15, 16, 17, 18, 19, 20, 21, 22, 23, 24, 25, 26, 27, 28, 29, 30, 31, 32, 33, 34, 35, 36, 37, 38, 39, 40, 41, 42, 43, 44, 45, 46, 47, 48, 49, 50, 51, 52, 53, 54, 55, 56, 57, 58, 59, 60, 61, 62, 63, 64, 65, 66, 67, 68, 69, 70, 71, 72, 73, 74, 75, 76, 77, 78, 79, 80, 81, 82, 83, 84, 85, 86, 87, 88, 89, 90, 91, 92, 93, 94, 95, 96, 97, 98, 99, 100, 101, 102, 103, 104, 105, 106, 107, 120, 121] (by decide +kernel) (by decide +kernel)
set_option maxRecDepth 20000 in
theorem gX5_firstFault_X5_fits : GoodIn wsX5_firstFault (wsV RX5 43 RX5 yX5_fits wsX5_fits) := goodIn_app (goodIn_of _ (by decide +kernel)) ggX5_firstFault_X5_fits
set_option maxRecDepth 20000 in
theorem ggX5_firstFault_X5_isWhole : GoodIn wsX5_firstFault wsX5_isWhole := goodIn_r _ [111, 1, 120, 121] (by decide +kernel) (by decide +kernel)
set_option maxRecDepth 20000 in
theorem gX5_firstFault_X5_isWhole : GoodIn wsX5_firstFault (wsV RX5 23 RX5 yX5_isWhole wsX5_isWhole) := goodIn_app (goodIn_of _ (by decide +kernel)) ggX5_firstFault_X5_isWhole
set_option maxRecDepth 20000 in
theorem ggX5_firstFault_X5_firstNobody : GoodIn wsX5_firstFault wsX5_firstNobody := goodIn_r _ [115, 1, 116, 117, 118, 5, 119, 104, 105, 106, 107, 7, 12, 13, 14, 120, 121] (by decide +kernel) (by decide +kernel)
set_option maxRecDepth 20000 in
theorem gX5_firstFault_X5_firstNobody : GoodIn wsX5_firstFault (wsV RX5 47 RX5 yX5_firstNobody wsX5_firstNobody) := goodIn_app (goodIn_of _ (by decide +kernel)) ggX5_firstFault_X5_firstNobody
set_option maxRecDepth 20000 in
theorem ggX5_fits_X5_kindAt : GoodIn wsX5_fits wsX5_kindAt := goodIn_r _ [6, 1, 7, 8, 9, 10, 11, 12, 13, 14, 15, 16, 17, 18, 19, 20, 21, 22, 23, 24, 25, 26, 27, 28, 29, 30, 31, 32, 33, 34, 35, 36, 37, 38, 39, 40, 41, 42, 43, 44, 45, 46, 47, 48, 49, 50, 51, 52, 53, 54, 55, 56, 57, 58, 59, 60, 61, 62, 63, 64, 65, 66, 67, 68, 69, 70, 71, 72, 73, 74, 75, 76, 77, 78, 79, 80, 81, 82, 83, 84, 85, 86, 87, 88, 89, 90, 91, 92, 93, 94, 95, 96, 97, 98, 103, 104] (by decide +kernel) (by decide +kernel)
set_option maxRecDepth 20000 in
theorem gX5_fits_X5_kindAt : GoodIn wsX5_fits (wsV RX5 50 RX5 yX5_kindAt wsX5_kindAt) := goodIn_app (goodIn_of _ (by decide +kernel)) ggX5_fits_X5_kindAt
set_option maxRecDepth 20000 in
theorem ggX5_fits_X11_at : GoodIn wsX5_fits wsX11_at := goodIn_r _ [9] (by decide +kernel) (by decide +kernel)
set_option maxRecDepth 20000 in
theorem gX5_fits_X11_at_n33 : GoodIn wsX5_fits (wsX11_at) := ggX5_fits_X11_at
set_option maxRecDepth 20000 in
theorem ggX5_fits_X5_digitAt : GoodIn wsX5_fits wsX5_digitAt := goodIn_r _ [102, 1, 7, 8, 9, 103, 104] (by decide +kernel) (by decide +kernel)
set_option maxRecDepth 20000 in
theorem gX5_fits_X5_digitAt : GoodIn wsX5_fits (wsV RX5 53 RX5 yX5_digitAt wsX5_digitAt) := goodIn_app (goodIn_of _ (by decide +kernel)) ggX5_fits_X5_digitAt
set_option maxRecDepth 20000 in
theorem ggX5_firstNobody_X5_people : GoodIn wsX5_firstNobody wsX5_people := goodIn_r _ [6, 1, 15, 16] (by decide +kernel) (by decide +kernel)
set_option maxRecDepth 20000 in
theorem gX5_firstNobody_X5_people : GoodIn wsX5_firstNobody (wsV RX5 56 RX5 yX5_people wsX5_people) := goodIn_app (goodIn_of _ (by decide +kernel)) ggX5_firstNobody_X5_people
set_option maxRecDepth 20000 in
theorem ggX5_firstNobody_X5_digitAt : GoodIn wsX5_firstNobody wsX5_digitAt := goodIn_r _ [10, 11, 12, 13, 14, 15, 16] (by decide +kernel) (by decide +kernel)
set_option maxRecDepth 20000 in
theorem gX5_firstNobody_X5_digitAt : GoodIn wsX5_firstNobody (wsV RX5 53 RX5 yX5_digitAt wsX5_digitAt) := goodIn_app (goodIn_of _ (by decide +kernel)) ggX5_firstNobody_X5_digitAt
set_option maxRecDepth 20000 in
theorem ggX7_planMoves_X7_howManyDiffer : GoodIn wsX7_planMoves wsX7_howManyDiffer := goodIn_r _ [8, 9, 10, 11, 12, 13, 14, 15] (by decide +kernel) (by decide +kernel)
set_option maxRecDepth 20000 in
theorem gX7_planMoves_X7_howManyDiffer : GoodIn wsX7_planMoves (va_wsS RX7 33 yX7_howManyDiffer wsX7_howManyDiffer) := goodIn_app (goodIn_of _ (by decide +kernel)) ggX7_planMoves_X7_howManyDiffer
set_option maxRecDepth 20000 in
theorem ggX7_planMoves_X9_companyIn : GoodIn wsX7_planMoves wsX9_companyIn := goodIn_r _ [20, 21, 22, 23, 24, 25, 26, 27, 75, 76, 77, 78] (by decide +kernel) (by decide +kernel)
set_option maxRecDepth 20000 in
theorem gX7_planMoves_X9_companyIn : GoodIn wsX7_planMoves (wsV RX7 37 RX9 yX9_companyIn wsX9_companyIn) := goodIn_app (goodIn_of _ (by decide +kernel)) ggX7_planMoves_X9_companyIn
set_option maxRecDepth 20000 in
theorem ggX7_planMoves_X9_canWrite : GoodIn wsX7_planMoves wsX9_canWrite := goodIn_r _ [31, 32, 33, 34, 35, 23, 36, 37, 38, 39, 19, 40, 41, 42, 43, 44, 45, 46, 47, 48, 49, 50, 21, 51, 52, 53, 54, 55, 56, 57, 58, 59, 60, 61, 62, 63, 64, 65, 66, 67, 68, 69, 70, 71, 72, 73, 74, 75, 76, 77, 78, 79, 80, 81, 82, 83, 84, 85, 86, 87, 88] (by decide +kernel) (by decide +kernel)
set_option maxRecDepth 20000 in
theorem gX7_planMoves_X9_canWrite : GoodIn wsX7_planMoves (wsV RX7 40 RX9 yX9_canWrite wsX9_canWrite) := goodIn_app (goodIn_of _ (by decide +kernel)) ggX7_planMoves_X9_canWrite
set_option maxRecDepth 20000 in
theorem ggX7_howManyDiffer_J6_bitCount_0f7a4 : GoodIn wsX7_howManyDiffer wsJ6_bitCount_0f7a4 := goodIn_r _ [4, 5, 6, 7] (by decide +kernel) (by decide +kernel)
set_option maxRecDepth 20000 in
theorem gX7_howManyDiffer_J6_bitCount_0f7a4 : GoodIn wsX7_howManyDiffer (va_wsS RX7 47 yJ6_bitCount_0f7a4 wsJ6_bitCount_0f7a4) := goodIn_app (goodIn_of _ (by decide +kernel)) ggX7_howManyDiffer_J6_bitCount_0f7a4
set_option maxRecDepth 20000 in
theorem ggX7_planDays_X7_whoIsWritten : GoodIn wsX7_planDays wsX7_whoIsWritten := goodIn_r _ [8, 1, 9, 10, 11, 12, 13, 14, 15, 16, 17, 18, 19, 20, 21, 22, 23, 24, 25, 26, 27, 28, 29, 30, 31, 32, 33, 34, 35, 36, 37, 38, 39, 40, 41, 42, 43, 44, 45, 46, 47, 48, 49, 50, 51, 52, 53, 54, 55, 56, 57, 58, 66, 67, 68, 69, 74, 75, 76, 77, 78, 79, 80, 81, 82, 83] (by decide +kernel) (by decide +kernel)
set_option maxRecDepth 20000 in
theorem gX7_planDays_X7_whoIsWritten : GoodIn wsX7_planDays (wsV RX7 56 RX7 yX7_whoIsWritten wsX7_whoIsWritten) := goodIn_app (goodIn_of _ (by decide +kernel)) ggX7_planDays_X7_whoIsWritten
set_option maxRecDepth 20000 in
theorem ggX7_planDays_X11_put : GoodIn wsX7_planDays wsX11_put := goodIn_r _ [60] (by decide +kernel) (by decide +kernel)
set_option maxRecDepth 20000 in
theorem gX7_planDays_X11_put_n60 : GoodIn wsX7_planDays (wsX11_put) := ggX7_planDays_X11_put
set_option maxRecDepth 20000 in
theorem ggX7_planDays_X7_cover : GoodIn wsX7_planDays wsX7_cover := goodIn_r _ [64, 2, 3, 65, 17, 18, 19, 61, 62, 63, 7, 59, 60, 70, 71, 72, 73] (by decide +kernel) (by decide +kernel)
set_option maxRecDepth 20000 in
theorem gX7_planDays_X7_cover : GoodIn wsX7_planDays (wsV RX7 64 RX7 yX7_cover wsX7_cover) := goodIn_app (goodIn_of _ (by decide +kernel)) ggX7_planDays_X7_cover
set_option maxRecDepth 20000 in
theorem ggX7_whoIsWritten_X9_canWrite : GoodIn wsX7_whoIsWritten wsX9_canWrite := goodIn_r _ [6, 7, 8, 9, 10, 11, 12, 13, 14, 15, 5, 16, 17, 18, 19, 20, 21, 22, 23, 24, 25, 26, 27, 28, 29, 30, 31, 32, 33, 34, 35, 36, 37, 38, 39, 40, 41, 42, 43, 44, 45, 46, 47, 48, 49, 50, 51, 52, 53, 54, 55, 56, 57, 58, 59, 60, 61, 62, 63, 64, 65] (by decide +kernel) (by decide +kernel)
set_option maxRecDepth 20000 in
theorem gX7_whoIsWritten_X9_canWrite : GoodIn wsX7_whoIsWritten (wsV RX7 40 RX9 yX9_canWrite wsX9_canWrite) := goodIn_app (goodIn_of _ (by decide +kernel)) ggX7_whoIsWritten_X9_canWrite
set_option maxRecDepth 20000 in
theorem ggX7_cover_X11_at : GoodIn wsX7_cover wsX11_at := goodIn_r _ [6] (by decide +kernel) (by decide +kernel)
set_option maxRecDepth 20000 in
theorem gX7_cover_X11_at_n68 : GoodIn wsX7_cover (wsX11_at) := ggX7_cover_X11_at
set_option maxRecDepth 20000 in
theorem ggX7_cover_X7_cover : GoodIn wsX7_cover wsX7_cover := goodIn_r _ [0, 1, 2, 3, 4, 5, 6, 7, 8, 9, 10, 11, 12, 13, 14, 15, 16] (by decide +kernel) (by decide +kernel)
set_option maxRecDepth 20000 in
theorem gX7_cover_X7_cover : GoodIn wsX7_cover (wsV RX7 64 RX7 yX7_cover wsX7_cover) := goodIn_app (goodIn_of _ (by decide +kernel)) ggX7_cover_X7_cover
set_option maxRecDepth 20000 in
theorem ggX7_cover_X11_put : GoodIn wsX7_cover wsX11_put := goodIn_r _ [12] (by decide +kernel) (by decide +kernel)
set_option maxRecDepth 20000 in
theorem gX7_cover_X11_put_n60 : GoodIn wsX7_cover (wsX11_put) := ggX7_cover_X11_put
set_option maxRecDepth 20000 in
theorem ggX8_init_X6_init : GoodIn wsX8_init wsX6_init := goodIn_r _ [4, 5, 6, 7, 8, 9, 10, 11, 12, 13] (by decide +kernel) (by decide +kernel)
set_option maxRecDepth 20000 in
theorem gX8_init_X6_init : GoodIn wsX8_init (wsX6_init) := ggX8_init_X6_init
set_option maxRecDepth 20000 in
theorem ggX9_init_X3_init : GoodIn wsX9_init wsX3_init := goodIn_r _ [26, 27, 2, 3, 28, 29, 30, 31, 32, 33, 34, 56, 57, 58, 59, 60, 61, 62, 63, 64, 65] (by decide +kernel) (by decide +kernel)
set_option maxRecDepth 20000 in
theorem gX9_init_X3_init_n11 : GoodIn wsX9_init (wsX3_init) := ggX9_init_X3_init
set_option maxRecDepth 20000 in
theorem ggX9_init_X6_init : GoodIn wsX9_init wsX6_init := goodIn_r _ [37, 38, 2, 3, 39, 72, 71, 70, 73, 74] (by decide +kernel) (by decide +kernel)
set_option maxRecDepth 20000 in
theorem gX9_init_X6_init : GoodIn wsX9_init (wsX6_init) := ggX9_init_X6_init
set_option maxRecDepth 20000 in
theorem ggX9_init_X2_init : GoodIn wsX9_init wsX2_init := goodIn_r _ [42, 43, 36, 10, 37, 38, 2, 3, 39, 72, 71, 70, 73, 74] (by decide +kernel) (by decide +kernel)
set_option maxRecDepth 20000 in
theorem gX9_init_X2_init : GoodIn wsX9_init (wsX2_init) := ggX9_init_X2_init
set_option maxRecDepth 20000 in
theorem ggX9_init_X0_init : GoodIn wsX9_init wsX0_init := goodIn_r _ [46, 47, 36, 10, 37, 38, 2, 3, 39, 72, 71, 70, 73, 74] (by decide +kernel) (by decide +kernel)
set_option maxRecDepth 20000 in
theorem gX9_init_X0_init : GoodIn wsX9_init (wsX0_init) := ggX9_init_X0_init
set_option maxRecDepth 20000 in
theorem ggX9_init_X8_init : GoodIn wsX9_init wsX8_init := goodIn_r _ [50, 51, 36, 10, 37, 38, 2, 3, 39, 72, 71, 70, 73, 74] (by decide +kernel) (by decide +kernel)
set_option maxRecDepth 20000 in
theorem gX9_init_X8_init : GoodIn wsX9_init (wsX8_init) := ggX9_init_X8_init
set_option maxRecDepth 20000 in
theorem ggX9_init_X10_init : GoodIn wsX9_init wsX10_init := goodIn_r _ [54, 55, 45, 16, 46, 47, 36, 10, 37, 38, 2, 3, 39, 72, 71, 70, 73, 74] (by decide +kernel) (by decide +kernel)
set_option maxRecDepth 20000 in
theorem gX9_init_X10_init : GoodIn wsX9_init (wsX10_init) := ggX9_init_X10_init
set_option maxRecDepth 20000 in
theorem ggX9_settle_X3_clear : GoodIn wsX9_settle wsX3_clear := goodIn_r _ [15, 16, 17, 18, 19, 20, 21, 22, 23, 24, 25, 133, 134, 135, 136, 137, 138, 139, 140, 141, 142] (by decide +kernel) (by decide +kernel)
set_option maxRecDepth 20000 in
theorem gX9_settle_X3_clear : GoodIn wsX9_settle (wsV RX9 42 RX3 yX3_clear wsX3_clear) := goodIn_app (goodIn_of _ (by decide +kernel)) ggX9_settle_X3_clear
set_option maxRecDepth 20000 in
theorem ggX9_settle_X5_people : GoodIn wsX9_settle wsX5_people := goodIn_r _ [30, 31, 143, 144] (by decide +kernel) (by decide +kernel)
set_option maxRecDepth 20000 in
theorem gX9_settle_X5_people : GoodIn wsX9_settle (wsV RX9 45 RX5 yX5_people wsX5_people) := goodIn_app (goodIn_of _ (by decide +kernel)) ggX9_settle_X5_people
set_option maxRecDepth 20000 in
theorem ggX9_settle_X5_kindAt : GoodIn wsX9_settle wsX5_kindAt := goodIn_r _ [35, 36, 37, 24, 38, 39, 40, 41, 42, 43, 44, 45, 46, 47, 48, 49, 50, 51, 52, 53, 54, 55, 56, 57, 58, 59, 60, 61, 62, 63, 64, 65, 66, 67, 68, 4, 69, 70, 3, 5, 71, 72, 73, 74, 75, 76, 77, 78, 79, 80, 81, 82, 83, 84, 85, 86, 87, 88, 89, 90, 91, 92, 93, 94, 95, 96, 97, 98, 99, 100, 101, 102, 103, 104, 105, 106, 107, 108, 109, 110, 111, 112, 113, 114, 115, 116, 117, 118, 119, 120, 121, 122, 123, 124, 143, 144] (by decide +kernel) (by decide +kernel)
set_option maxRecDepth 20000 in
theorem gX9_settle_X5_kindAt : GoodIn wsX9_settle (wsV RX9 60 RX5 yX5_kindAt wsX5_kindAt) := goodIn_app (goodIn_of _ (by decide +kernel)) ggX9_settle_X5_kindAt
set_option maxRecDepth 20000 in
theorem ggX9_settle_X5_digitAt : GoodIn wsX9_settle wsX5_digitAt := goodIn_r _ [128, 36, 37, 24, 38, 143, 144] (by decide +kernel) (by decide +kernel)
set_option maxRecDepth 20000 in
theorem gX9_settle_X5_digitAt : GoodIn wsX9_settle (wsV RX9 68 RX5 yX5_digitAt wsX5_digitAt) := goodIn_app (goodIn_of _ (by decide +kernel)) ggX9_settle_X5_digitAt
set_option maxRecDepth 20000 in
theorem ggX9_settle_X11_put : GoodIn wsX9_settle wsX11_put := goodIn_r _ [25] (by decide +kernel) (by decide +kernel)
set_option maxRecDepth 20000 in
theorem gX9_settle_X11_put_n71 : GoodIn wsX9_settle (wsX11_put) := ggX9_settle_X11_put
set_option maxRecDepth 20000 in
theorem ggX9_isCompanyOf_X9_isSetOfPeople : GoodIn wsX9_isCompanyOf wsX9_isSetOfPeople := goodIn_r _ [5, 6, 7, 8, 9, 10] (by decide +kernel) (by decide +kernel)
set_option maxRecDepth 20000 in
theorem gX9_isCompanyOf_X9_isSetOfPeople : GoodIn wsX9_isCompanyOf (wsV RX9 78 RX9 yX9_isSetOfPeople wsX9_isSetOfPeople) := goodIn_app (goodIn_of _ (by decide +kernel)) ggX9_isCompanyOf_X9_isSetOfPeople
set_option maxRecDepth 20000 in
theorem ggX9_personAt_X9_has : GoodIn wsX9_personAt wsX9_has := goodIn_r _ [6, 7, 8, 9, 10, 11] (by decide +kernel) (by decide +kernel)
set_option maxRecDepth 20000 in
theorem gX9_personAt_X9_has : GoodIn wsX9_personAt (wsV RX9 82 RX9 yX9_has wsX9_has) := goodIn_app (goodIn_of _ (by decide +kernel)) ggX9_personAt_X9_has
set_option maxRecDepth 20000 in
theorem ggX9_kindOf_X9_personAt : GoodIn wsX9_kindOf wsX9_personAt := goodIn_r _ [6, 7, 8, 9, 10, 5, 11, 12, 18, 19, 20, 21] (by decide +kernel) (by decide +kernel)
set_option maxRecDepth 20000 in
theorem gX9_kindOf_X9_personAt : GoodIn wsX9_kindOf (wsV RX9 85 RX9 yX9_personAt wsX9_personAt) := goodIn_app (goodIn_of _ (by decide +kernel)) ggX9_kindOf_X9_personAt
set_option maxRecDepth 20000 in
theorem ggX9_companyIn_X11_roomIn : GoodIn wsX9_companyIn wsX11_roomIn := goodIn_r _ [4, 5, 6, 3, 7] (by decide +kernel) (by decide +kernel)
set_option maxRecDepth 20000 in
theorem gX9_companyIn_X11_roomIn_n92 : GoodIn wsX9_companyIn (wsX11_roomIn) := ggX9_companyIn_X11_roomIn
set_option maxRecDepth 20000 in
theorem ggX9_canWrite_X11_at : GoodIn wsX9_canWrite wsX11_at := goodIn_r _ [6] (by decide +kernel) (by decide +kernel)
set_option maxRecDepth 20000 in
theorem gX9_canWrite_X11_at_n95 : GoodIn wsX9_canWrite (wsX11_at) := ggX9_canWrite_X11_at
set_option maxRecDepth 20000 in
theorem ggX9_canWrite_X9_couldWrite : GoodIn wsX9_canWrite wsX9_couldWrite := goodIn_r _ [11, 1, 12, 13, 14, 15, 10, 16, 17, 18, 19, 20, 21, 22, 4, 5, 6, 23, 24, 25, 26, 27, 28, 29, 30, 31, 32, 33, 34, 35, 36, 37, 38, 39, 40, 41, 42, 43, 44, 45, 46, 47, 48, 49, 50, 51, 52, 53, 54, 55, 56, 57, 58, 59, 60] (by decide +kernel) (by decide +kernel)
set_option maxRecDepth 20000 in
theorem gX9_canWrite_X9_couldWrite : GoodIn wsX9_canWrite (wsV RX9 99 RX9 yX9_couldWrite wsX9_couldWrite) := goodIn_app (goodIn_of _ (by decide +kernel)) ggX9_canWrite_X9_couldWrite
set_option maxRecDepth 20000 in
theorem ggX9_couldWrite_X9_personAt : GoodIn wsX9_couldWrite wsX9_personAt := goodIn_r _ [7, 8, 9, 10, 11, 6, 12, 13, 41, 42, 43, 44] (by decide +kernel) (by decide +kernel)
set_option maxRecDepth 20000 in
theorem gX9_couldWrite_X9_personAt : GoodIn wsX9_couldWrite (wsV RX9 85 RX9 yX9_personAt wsX9_personAt) := goodIn_app (goodIn_of _ (by decide +kernel)) ggX9_couldWrite_X9_personAt
set_option maxRecDepth 20000 in
theorem ggX9_couldWrite_X11_at : GoodIn wsX9_couldWrite wsX11_at := goodIn_r _ [16] (by decide +kernel) (by decide +kernel)
set_option maxRecDepth 20000 in
theorem gX9_couldWrite_X11_at_n95 : GoodIn wsX9_couldWrite (wsX11_at) := ggX9_couldWrite_X11_at
set_option maxRecDepth 20000 in
theorem ggX9_couldWrite_X0_isSpelt : GoodIn wsX9_couldWrite wsX0_isSpelt := goodIn_r _ [23] (by decide +kernel) (by decide +kernel)
set_option maxRecDepth 20000 in
theorem gX9_couldWrite_X0_isSpelt_u106X0 : GoodIn wsX9_couldWrite (va_wsO RX9 106 RX0 "SpeltByFriends$Person" ⟨"SpeltByFriends$Person", "isSpelt", "(ZZII)Z"⟩ yX0_isSpelt wsX0_isSpelt) := goodIn_app (goodIn_of _ (by decide +kernel)) ggX9_couldWrite_X0_isSpelt
set_option maxRecDepth 20000 in
theorem ggX9_couldWrite_X2_isSpelt : GoodIn wsX9_couldWrite wsX2_isSpelt := goodIn_r _ [28] (by decide +kernel) (by decide +kernel)
set_option maxRecDepth 20000 in
theorem gX9_couldWrite_X2_isSpelt_u106X2 : GoodIn wsX9_couldWrite (va_wsO RX9 106 RX2 "SpeltByFriends$Person" ⟨"SpeltByFriends$Person", "isSpelt", "(ZZII)Z"⟩ yX2_isSpelt wsX2_isSpelt) := goodIn_app (goodIn_of _ (by decide +kernel)) ggX9_couldWrite_X2_isSpelt
set_option maxRecDepth 20000 in
theorem ggX9_couldWrite_X6_isSpelt : GoodIn wsX9_couldWrite wsX6_isSpelt := goodIn_r _ [24] (by decide +kernel) (by decide +kernel)
set_option maxRecDepth 20000 in
theorem gX9_couldWrite_X6_isSpelt : GoodIn wsX9_couldWrite (wsV RX9 106 RX6 yX6_isSpelt wsX6_isSpelt) := goodIn_app (goodIn_of _ (by decide +kernel)) ggX9_couldWrite_X6_isSpelt
set_option maxRecDepth 20000 in
theorem ggX9_couldWrite_X8_isSpelt : GoodIn wsX9_couldWrite wsX8_isSpelt := goodIn_r _ [36] (by decide +kernel) (by decide +kernel)
set_option maxRecDepth 20000 in
theorem gX9_couldWrite_X8_isSpelt_u106X8 : GoodIn wsX9_couldWrite (va_wsO RX9 106 RX8 "SpeltByFriends$Person" ⟨"SpeltByFriends$Person", "isSpelt", "(ZZII)Z"⟩ yX8_isSpelt wsX8_isSpelt) := goodIn_app (goodIn_of _ (by decide +kernel)) ggX9_couldWrite_X8_isSpelt
set_option maxRecDepth 20000 in
theorem ggX9_couldWrite_X10_isSpelt : GoodIn wsX9_couldWrite wsX10_isSpelt := goodIn_r _ [40] (by decide +kernel) (by decide +kernel)
set_option maxRecDepth 20000 in
theorem gX9_couldWrite_X10_isSpelt_u106X10 : GoodIn wsX9_couldWrite (va_wsO RX9 106 RX10 "SpeltByFriends$Person" ⟨"SpeltByFriends$Person", "isSpelt", "(ZZII)Z"⟩ yX10_isSpelt wsX10_isSpelt) := goodIn_app (goodIn_of _ (by decide +kernel)) ggX9_couldWrite_X10_isSpelt
set_option maxRecDepth 20000 in
theorem ggX9_howManyWritten_X9_companyIn : GoodIn wsX9_howManyWritten wsX9_companyIn := goodIn_r _ [6, 1, 7, 8, 9, 10, 11, 12, 60, 61, 62, 63] (by decide +kernel) (by decide +kernel)
set_option maxRecDepth 20000 in
theorem gX9_howManyWritten_X9_companyIn : GoodIn wsX9_howManyWritten (wsV RX9 110 RX9 yX9_companyIn wsX9_companyIn) := goodIn_app (goodIn_of _ (by decide +kernel)) ggX9_howManyWritten_X9_companyIn
set_option maxRecDepth 20000 in
theorem ggX9_howManyWritten_X9_canWrite : GoodIn wsX9_howManyWritten wsX9_canWrite := goodIn_r _ [16, 17, 18, 19, 20, 8, 21, 22, 23, 24, 5, 25, 26, 27, 28, 29, 30, 31, 32, 33, 34, 35, 1, 36, 37, 38, 39, 40, 41, 42, 43, 44, 45, 46, 47, 48, 49, 50, 51, 52, 53, 54, 55, 56, 57, 58, 59, 60, 61, 62, 63, 64, 65, 66, 67, 68, 69, 70, 71, 72, 73] (by decide +kernel) (by decide +kernel)
set_option maxRecDepth 20000 in
theorem gX9_howManyWritten_X9_canWrite : GoodIn wsX9_howManyWritten (wsV RX9 113 RX9 yX9_canWrite wsX9_canWrite) := goodIn_app (goodIn_of _ (by decide +kernel)) ggX9_howManyWritten_X9_canWrite
set_option maxRecDepth 20000 in
theorem ggX9_quarrellingPairs_X11_at : GoodIn wsX9_quarrellingPairs wsX11_at := goodIn_r _ [6] (by decide +kernel) (by decide +kernel)
set_option maxRecDepth 20000 in
theorem gX9_quarrellingPairs_X11_at_n95 : GoodIn wsX9_quarrellingPairs (wsX11_at) := ggX9_quarrellingPairs_X11_at
set_option maxRecDepth 20000 in
theorem ggX9_quarrellingPairs_J6_bitCount_0f7a4 : GoodIn wsX9_quarrellingPairs wsJ6_bitCount_0f7a4 := goodIn_r _ [10, 11, 12, 13] (by decide +kernel) (by decide +kernel)
set_option maxRecDepth 20000 in
theorem gX9_quarrellingPairs_J6_bitCount_0f7a4 : GoodIn wsX9_quarrellingPairs (va_wsS RX9 117 yJ6_bitCount_0f7a4 wsJ6_bitCount_0f7a4) := goodIn_app (goodIn_of _ (by decide +kernel)) ggX9_quarrellingPairs_J6_bitCount_0f7a4
set_option maxRecDepth 20000 in
theorem ggX9_lettersOfOthers_X11_at : GoodIn wsX9_lettersOfOthers wsX11_at := goodIn_r _ [7] (by decide +kernel) (by decide +kernel)
set_option maxRecDepth 20000 in
theorem gX9_lettersOfOthers_X11_at_n95 : GoodIn wsX9_lettersOfOthers (wsX11_at) := ggX9_lettersOfOthers_X11_at
set_option maxRecDepth 20000 in
theorem ggX9_wants_X9_canWrite : GoodIn wsX9_wants wsX9_canWrite := goodIn_r _ [6, 7, 8, 9, 10, 11, 12, 13, 14, 15, 5, 16, 17, 18, 19, 20, 21, 22, 23, 24, 25, 26, 1, 27, 28, 29, 30, 31, 32, 33, 34, 35, 36, 37, 38, 39, 40, 41, 42, 43, 44, 45, 46, 47, 48, 49, 50, 51, 52, 53, 54, 55, 56, 57, 58, 59, 60, 61, 62, 63, 64] (by decide +kernel) (by decide +kernel)
set_option maxRecDepth 20000 in
theorem gX9_wants_X9_canWrite : GoodIn wsX9_wants (wsV RX9 113 RX9 yX9_canWrite wsX9_canWrite) := goodIn_app (goodIn_of _ (by decide +kernel)) ggX9_wants_X9_canWrite
set_option maxRecDepth 20000 in
theorem ggX10_init_X0_init : GoodIn wsX10_init wsX0_init := goodIn_r _ [4, 5, 6, 7, 8, 9, 10, 11, 12, 13, 14, 15, 16, 17] (by decide +kernel) (by decide +kernel)
set_option maxRecDepth 20000 in
theorem gX10_init_X0_init : GoodIn wsX10_init (wsX0_init) := ggX10_init_X0_init
set_option maxRecDepth 20000 in
theorem ggX11_init_X5_init : GoodIn wsX11_init wsX5_init := goodIn_r _ [29, 30, 2, 3, 31, 32, 98, 99] (by decide +kernel) (by decide +kernel)
set_option maxRecDepth 20000 in
theorem gX11_init_X5_init_n9 : GoodIn wsX11_init (wsX5_init) := ggX11_init_X5_init
set_option maxRecDepth 20000 in
theorem ggX11_init_X9_init : GoodIn wsX11_init wsX9_init := goodIn_r _ [34, 35, 2, 3, 36, 13, 14, 37, 38, 39, 40, 41, 42, 43, 44, 45, 46, 47, 48, 49, 50, 51, 52, 53, 54, 55, 56, 57, 31, 58, 59, 60, 61, 62, 63, 64, 65, 66, 67, 68, 69, 70, 71, 72, 73, 74, 75, 76, 77, 78, 79, 80, 81, 82, 83, 84, 114, 115, 116, 117, 118, 119, 120, 121, 122, 123, 110, 111, 112, 113, 135, 136, 137, 138, 139] (by decide +kernel) (by decide +kernel)
set_option maxRecDepth 20000 in
theorem gX11_init_X9_init_n18 : GoodIn wsX11_init (wsX9_init) := ggX11_init_X9_init
set_option maxRecDepth 20000 in
theorem ggX11_init_X3_init : GoodIn wsX11_init wsX3_init := goodIn_r _ [56, 57, 2, 3, 31, 58, 59, 60, 61, 62, 63, 114, 115, 116, 117, 118, 119, 120, 121, 122, 123] (by decide +kernel) (by decide +kernel)
set_option maxRecDepth 20000 in
theorem gX11_init_X3_init_n25 : GoodIn wsX11_init (wsX3_init) := ggX11_init_X3_init
set_option maxRecDepth 20000 in
theorem ggX11_init_X7_init : GoodIn wsX11_init wsX7_init := goodIn_r _ [86, 87, 2, 3, 31, 88, 89, 124, 125, 126, 127] (by decide +kernel) (by decide +kernel)
set_option maxRecDepth 20000 in
theorem gX11_init_X7_init_n32 : GoodIn wsX11_init (wsX7_init) := ggX11_init_X7_init
set_option maxRecDepth 20000 in
theorem ggX11_init_X1_init : GoodIn wsX11_init wsX1_init := goodIn_r _ [91, 92, 2, 3, 31, 93, 94, 128, 129, 130, 131] (by decide +kernel) (by decide +kernel)
set_option maxRecDepth 20000 in
theorem gX11_init_X1_init_n39 : GoodIn wsX11_init (wsX1_init) := ggX11_init_X1_init
set_option maxRecDepth 20000 in
theorem ggX11_init_X4_init : GoodIn wsX11_init wsX4_init := goodIn_r _ [96, 97, 2, 3] (by decide +kernel) (by decide +kernel)
set_option maxRecDepth 20000 in
theorem gX11_init_X4_init_n46 : GoodIn wsX11_init (wsX4_init) := ggX11_init_X4_init
set_option maxRecDepth 20000 in
theorem ggX11_letter_X5_add : GoodIn wsX11_letter wsX5_add := goodIn_r _ [7, 8, 9, 10, 11, 12, 23, 24] (by decide +kernel) (by decide +kernel)
set_option maxRecDepth 20000 in
theorem gX11_letter_X5_add : GoodIn wsX11_letter (wsV RX11 51 RX5 yX5_add wsX5_add) := goodIn_app (goodIn_of _ (by decide +kernel)) ggX11_letter_X5_add
set_option maxRecDepth 20000 in
theorem ggX11_fault_X5_firstFault : GoodIn wsX11_fault wsX5_firstFault := goodIn_r _ [6, 7, 8, 9, 10, 5, 11, 12, 13, 14, 15, 16, 17, 18, 19, 20, 21, 22, 23, 24, 25, 26, 27, 28, 29, 30, 31, 32, 33, 34, 35, 36, 37, 38, 39, 40, 41, 42, 43, 44, 45, 46, 47, 48, 49, 50, 51, 52, 53, 54, 55, 56, 57, 58, 59, 60, 61, 62, 63, 64, 65, 66, 67, 68, 69, 70, 71, 72, 73, 74, 75, 76, 77, 78, 79, 80, 81, 82, 83, 84, 85, 86, 87, 88, 89, 90, 91, 92, 93, 94, 95, 96, 97, 98, 99, 100, 101, 102, 103, 104, 105, 106, 107, 108, 109, 110, 111, 112, 113, 114, 115, 116, 117, 118, 119, 120, 121, 122, 123, 124, 135, 136] (by decide +kernel) (by decide +kernel)
set_option maxRecDepth 20000 in
theorem gX11_fault_X5_firstFault : GoodIn wsX11_fault (wsV RX11 59 RX5 yX5_firstFault wsX5_firstFault) := goodIn_app (goodIn_of _ (by decide +kernel)) ggX11_fault_X5_firstFault
set_option maxRecDepth 20000 in
theorem ggX11_town_X5_isTown : GoodIn wsX11_town wsX5_isTown := goodIn_r _ [10, 11, 12, 13, 14, 9, 15, 16, 17, 18, 19, 20, 21, 22, 23, 24, 25, 26, 27, 28, 29, 30, 31, 32, 33, 34, 35, 36, 37, 38, 39, 40, 41, 42, 43, 44, 45, 46, 47, 48, 49, 50, 51, 52, 53, 54, 55, 56, 57, 58, 59, 60, 61, 62, 63, 64, 65, 66, 67, 68, 69, 70, 71, 72, 73, 74, 75, 76, 77, 78, 79, 80, 81, 82, 83, 84, 85, 86, 87, 88, 89, 90, 91, 92, 93, 94, 95, 96, 97, 98, 99, 100, 101, 102, 103, 104, 105, 106, 107, 108, 109, 110, 111, 112, 113, 114, 115, 116, 117, 118, 119, 120, 121, 122, 123, 124, 125, 126, 127, 128, 129, 130, 131, 132, 172, 173] (by decide +kernel) (by decide +kernel)
set_option maxRecDepth 20000 in
theorem gX11_town_X5_isTown : GoodIn wsX11_town (wsV RX11 63 RX5 yX5_isTown wsX5_isTown) := goodIn_app (goodIn_of _ (by decide +kernel)) ggX11_town_X5_isTown
set_option maxRecDepth 20000 in
theorem ggX11_town_X9_settle : GoodIn wsX11_town wsX9_settle := goodIn_r _ [137, 138, 139, 65, 62, 66, 140, 141, 142, 143, 144, 145, 146, 147, 148, 149, 150, 151, 152, 153, 154, 155, 156, 157, 30, 158, 159, 130, 131, 9, 132, 11, 160, 26, 27, 28, 24, 29, 31, 32, 33, 34, 35, 36, 37, 38, 39, 40, 41, 42, 43, 44, 45, 46, 47, 48, 49, 50, 51, 52, 53, 54, 55, 56, 57, 58, 59, 60, 61, 63, 64, 67, 68, 69, 70, 71, 72, 73, 74, 75, 76, 77, 78, 79, 80, 81, 82, 83, 84, 85, 86, 87, 88, 89, 90, 91, 92, 93, 94, 95, 96, 97, 98, 99, 100, 101, 102, 103, 104, 105, 106, 107, 108, 109, 110, 111, 112, 113, 114, 115, 116, 117, 118, 119, 120, 161, 122, 123, 124, 174, 175, 176, 177, 178, 179, 180, 181, 182, 183, 184, 185, 186, 187, 172, 173] (by decide +kernel) (by decide +kernel)
set_option maxRecDepth 20000 in
theorem gX11_town_X9_settle : GoodIn wsX11_town (wsV RX11 67 RX9 yX9_settle wsX9_settle) := goodIn_app (goodIn_of _ (by decide +kernel)) ggX11_town_X9_settle
set_option maxRecDepth 20000 in
theorem ggX11_about_X9_has : GoodIn wsX11_about wsX9_has := goodIn_r _ [6, 7, 97, 98, 99, 100] (by decide +kernel) (by decide +kernel)
set_option maxRecDepth 20000 in
theorem gX11_about_X9_has : GoodIn wsX11_about (wsV RX11 77 RX9 yX9_has wsX9_has) := goodIn_app (goodIn_of _ (by decide +kernel)) ggX11_about_X9_has
set_option maxRecDepth 20000 in
theorem ggX11_about_X11_tellAbout : GoodIn wsX11_about wsX11_tellAbout := goodIn_r _ [12, 1, 13, 14, 15, 16, 17, 18, 19, 20, 5, 21, 22, 23, 24, 25, 26, 27, 28, 3, 4, 6, 7, 29, 30, 11, 31, 32, 33, 34, 35, 36, 37, 38, 39, 40, 41, 42, 43, 44, 45, 46, 47, 48, 49, 50, 51, 52, 53, 54, 55, 56, 57, 58, 59, 60, 61, 62, 63, 64, 65, 66, 67, 68, 69, 70, 71, 72, 73, 74, 75, 76, 77, 78, 79, 80, 81, 82, 83, 84, 85, 86, 87, 88, 89, 90, 91, 92, 93, 94, 95, 96, 97, 98, 99, 100, 101, 102, 103, 104, 105, 106, 107, 108, 109, 110, 111, 112, 113, 114, 115] (by decide +kernel) (by decide +kernel)
set_option maxRecDepth 20000 in
theorem gX11_about_X11_tellAbout : GoodIn wsX11_about (wsV RX11 80 RX11 yX11_tellAbout wsX11_tellAbout) := goodIn_app (goodIn_of _ (by decide +kernel)) ggX11_about_X11_tellAbout
set_option maxRecDepth 20000 in
theorem ggX11_as_X9_has : GoodIn wsX11_as wsX9_has := goodIn_r _ [6, 7, 32, 33, 34, 35] (by decide +kernel) (by decide +kernel)
set_option maxRecDepth 20000 in
theorem gX11_as_X9_has : GoodIn wsX11_as (wsV RX11 77 RX9 yX9_has wsX9_has) := goodIn_app (goodIn_of _ (by decide +kernel)) ggX11_as_X9_has
set_option maxRecDepth 20000 in
theorem ggX11_as_X9_personAt : GoodIn wsX11_as wsX9_personAt := goodIn_r _ [11, 12, 13, 3, 4, 5, 6, 7, 32, 33, 34, 35] (by decide +kernel) (by decide +kernel)
set_option maxRecDepth 20000 in
theorem gX11_as_X9_personAt : GoodIn wsX11_as (wsV RX11 84 RX9 yX9_personAt wsX9_personAt) := goodIn_app (goodIn_of _ (by decide +kernel)) ggX11_as_X9_personAt
set_option maxRecDepth 20000 in
theorem ggX11_as_X11_isOfKind : GoodIn wsX11_as wsX11_isOfKind := goodIn_r _ [17, 18, 19, 20, 21] (by decide +kernel) (by decide +kernel)
set_option maxRecDepth 20000 in
theorem gX11_as_X11_isOfKind : GoodIn wsX11_as (va_wsS RX11 88 yX11_isOfKind wsX11_isOfKind) := goodIn_app (goodIn_of _ (by decide +kernel)) ggX11_as_X11_isOfKind
set_option maxRecDepth 20000 in
theorem ggX11_go_X9_has : GoodIn wsX11_go wsX9_has := goodIn_r _ [9, 10, 31, 32, 33, 34] (by decide +kernel) (by decide +kernel)
set_option maxRecDepth 20000 in
theorem gX11_go_X9_has : GoodIn wsX11_go (wsV RX11 77 RX9 yX9_has wsX9_has) := goodIn_app (goodIn_of _ (by decide +kernel)) ggX11_go_X9_has
set_option maxRecDepth 20000 in
theorem ggX11_go_X11_roomIn : GoodIn wsX11_go wsX11_roomIn := goodIn_r _ [14, 15, 16, 13, 17] (by decide +kernel) (by decide +kernel)
set_option maxRecDepth 20000 in
theorem gX11_go_X11_roomIn : GoodIn wsX11_go (va_wsS RX11 98 yX11_roomIn wsX11_roomIn) := goodIn_app (goodIn_of _ (by decide +kernel)) ggX11_go_X11_roomIn
set_option maxRecDepth 20000 in
theorem ggX11_go_X11_withRoom : GoodIn wsX11_go wsX11_withRoom := goodIn_r _ [20, 15, 16, 13, 17] (by decide +kernel) (by decide +kernel)
set_option maxRecDepth 20000 in
theorem gX11_go_X11_withRoom : GoodIn wsX11_go (va_wsS RX11 101 yX11_withRoom wsX11_withRoom) := goodIn_app (goodIn_of _ (by decide +kernel)) ggX11_go_X11_withRoom
set_option maxRecDepth 20000 in
theorem ggX11_sell_X9_has : GoodIn wsX11_sell wsX9_has := goodIn_r _ [10, 11, 29, 30, 31, 32] (by decide +kernel) (by decide +kernel)
set_option maxRecDepth 20000 in
theorem gX11_sell_X9_has : GoodIn wsX11_sell (wsV RX11 77 RX9 yX9_has wsX9_has) := goodIn_app (goodIn_of _ (by decide +kernel)) ggX11_sell_X9_has
set_option maxRecDepth 20000 in
theorem ggX11_sell_X11_at : GoodIn wsX11_sell wsX11_at := goodIn_r _ [15] (by decide +kernel) (by decide +kernel)
set_option maxRecDepth 20000 in
theorem gX11_sell_X11_at : GoodIn wsX11_sell (va_wsS RX11 115 yX11_at wsX11_at) := goodIn_app (goodIn_of _ (by decide +kernel)) ggX11_sell_X11_at
set_option maxRecDepth 20000 in
theorem ggX11_sell_X11_put : GoodIn wsX11_sell wsX11_put := goodIn_r _ [18] (by decide +kernel) (by decide +kernel)
set_option maxRecDepth 20000 in
theorem gX11_sell_X11_put : GoodIn wsX11_sell (va_wsS RX11 119 yX11_put wsX11_put) := goodIn_app (goodIn_of _ (by decide +kernel)) ggX11_sell_X11_put
set_option maxRecDepth 20000 in
theorem ggX11_quarrel_X9_has : GoodIn wsX11_quarrel wsX9_has := goodIn_r _ [8, 9, 32, 33, 34, 35] (by decide +kernel) (by decide +kernel)
set_option maxRecDepth 20000 in
theorem gX11_quarrel_X9_has : GoodIn wsX11_quarrel (wsV RX11 77 RX9 yX9_has wsX9_has) := goodIn_app (goodIn_of _ (by decide +kernel)) ggX11_quarrel_X9_has
set_option maxRecDepth 20000 in
theorem ggX11_quarrel_X11_at : GoodIn wsX11_quarrel wsX11_at := goodIn_r _ [13] (by decide +kernel) (by decide +kernel)
set_option maxRecDepth 20000 in
theorem gX11_quarrel_X11_at : GoodIn wsX11_quarrel (va_wsS RX11 115 yX11_at wsX11_at) := goodIn_app (goodIn_of _ (by decide +kernel)) ggX11_quarrel_X11_at
set_option maxRecDepth 20000 in
theorem ggX11_quarrel_X3_setFoe : GoodIn wsX11_quarrel wsX3_setFoe := goodIn_r _ [18, 19, 11, 12, 13, 20, 21, 36, 37, 38, 39, 40, 41, 42, 43, 44, 45] (by decide +kernel) (by decide +kernel)
set_option maxRecDepth 20000 in
theorem gX11_quarrel_X3_setFoe : GoodIn wsX11_quarrel (wsV RX11 129 RX3 yX3_setFoe wsX3_setFoe) := goodIn_app (goodIn_of _ (by decide +kernel)) ggX11_quarrel_X3_setFoe
set_option maxRecDepth 20000 in
theorem ggX11_written_X9_has : GoodIn wsX11_written wsX9_has := goodIn_r _ [6, 7, 71, 72, 73, 74] (by decide +kernel) (by decide +kernel)
set_option maxRecDepth 20000 in
theorem gX11_written_X9_has : GoodIn wsX11_written (wsV RX11 77 RX9 yX9_has wsX9_has) := goodIn_app (goodIn_of _ (by decide +kernel)) ggX11_written_X9_has
set_option maxRecDepth 20000 in
theorem ggX11_written_X9_isCompanyOf : GoodIn wsX11_written wsX9_isCompanyOf := goodIn_r _ [11, 12, 13, 14, 5, 15, 7, 71, 72, 73, 74] (by decide +kernel) (by decide +kernel)
set_option maxRecDepth 20000 in
theorem gX11_written_X9_isCompanyOf : GoodIn wsX11_written (wsV RX11 133 RX9 yX9_isCompanyOf wsX9_isCompanyOf) := goodIn_app (goodIn_of _ (by decide +kernel)) ggX11_written_X9_isCompanyOf
set_option maxRecDepth 20000 in
theorem ggX11_written_X9_canWrite : GoodIn wsX11_written wsX9_canWrite := goodIn_r _ [19, 20, 21, 22, 23, 24, 25, 26, 27, 28, 5, 29, 30, 31, 32, 33, 34, 35, 36, 3, 4, 6, 7, 37, 38, 39, 40, 41, 42, 43, 44, 45, 46, 47, 48, 49, 50, 51, 52, 53, 54, 55, 56, 57, 58, 59, 60, 71, 72, 73, 74, 75, 76, 77, 78, 79, 80, 81, 82, 83, 84] (by decide +kernel) (by decide +kernel)
set_option maxRecDepth 20000 in
theorem gX11_written_X9_canWrite : GoodIn wsX11_written (wsV RX11 137 RX9 yX9_canWrite wsX9_canWrite) := goodIn_app (goodIn_of _ (by decide +kernel)) ggX11_written_X9_canWrite
set_option maxRecDepth 20000 in
theorem ggX11_moves_X9_has : GoodIn wsX11_moves wsX9_has := goodIn_r _ [9, 10, 99, 100, 101, 102] (by decide +kernel) (by decide +kernel)
set_option maxRecDepth 20000 in
theorem gX11_moves_X9_has : GoodIn wsX11_moves (wsV RX11 77 RX9 yX9_has wsX9_has) := goodIn_app (goodIn_of _ (by decide +kernel)) ggX11_moves_X9_has
set_option maxRecDepth 20000 in
theorem ggX11_moves_X7_planMoves : GoodIn wsX11_moves wsX7_planMoves := goodIn_r _ [15, 16, 17, 18, 19, 20, 21, 14, 22, 23, 24, 25, 26, 27, 28, 29, 30, 31, 32, 8, 33, 10, 34, 35, 36, 37, 38, 39, 40, 41, 42, 43, 44, 45, 46, 47, 48, 49, 50, 51, 52, 53, 54, 55, 56, 57, 58, 59, 6, 7, 9, 60, 61, 62, 63, 64, 65, 66, 67, 68, 69, 70, 71, 72, 73, 74, 75, 76, 77, 78, 79, 80, 81, 82, 83, 99, 100, 101, 102, 103, 104, 105, 106, 107, 108, 109, 110, 111, 112, 95, 96, 97, 98] (by decide +kernel) (by decide +kernel)
set_option maxRecDepth 20000 in
theorem gX11_moves_X7_planMoves : GoodIn wsX11_moves (wsV RX11 143 RX7 yX7_planMoves wsX7_planMoves) := goodIn_app (goodIn_of _ (by decide +kernel)) ggX11_moves_X7_planMoves
set_option maxRecDepth 20000 in
theorem ggX11_moves_X11_roomIn : GoodIn wsX11_moves wsX11_roomIn := goodIn_r _ [36, 37, 38, 35, 39] (by decide +kernel) (by decide +kernel)
set_option maxRecDepth 20000 in
theorem gX11_moves_X11_roomIn : GoodIn wsX11_moves (va_wsS RX11 98 yX11_roomIn wsX11_roomIn) := goodIn_app (goodIn_of _ (by decide +kernel)) ggX11_moves_X11_roomIn
set_option maxRecDepth 20000 in
theorem ggX11_days_X9_isSetOfPeople : GoodIn wsX11_days wsX9_isSetOfPeople := goodIn_r _ [10, 11, 90, 91, 92, 93] (by decide +kernel) (by decide +kernel)
set_option maxRecDepth 20000 in
theorem gX11_days_X9_isSetOfPeople : GoodIn wsX11_days (wsV RX11 150 RX9 yX9_isSetOfPeople wsX9_isSetOfPeople) := goodIn_app (goodIn_of _ (by decide +kernel)) ggX11_days_X9_isSetOfPeople
set_option maxRecDepth 20000 in
theorem ggX11_days_X7_planDays : GoodIn wsX11_days wsX7_planDays := goodIn_r _ [16, 17, 18, 19, 20, 21, 22, 15, 23, 24, 25, 26, 9, 27, 28, 29, 30, 31, 32, 33, 34, 35, 36, 37, 38, 39, 40, 41, 42, 43, 44, 45, 46, 47, 11, 48, 49, 50, 51, 52, 53, 54, 55, 56, 57, 58, 59, 60, 61, 62, 63, 64, 65, 66, 67, 68, 69, 70, 71, 72, 73, 74, 75, 76, 77, 78, 90, 91, 92, 93, 94, 95, 96, 97, 98, 99, 100, 101, 102, 103, 104, 105, 106, 107] (by decide +kernel) (by decide +kernel)
set_option maxRecDepth 20000 in
theorem gX11_days_X7_planDays : GoodIn wsX11_days (wsV RX11 156 RX7 yX7_planDays wsX7_planDays) := goodIn_app (goodIn_of _ (by decide +kernel)) ggX11_days_X7_planDays
set_option maxRecDepth 20000 in
theorem ggX11_days_X11_at : GoodIn wsX11_days wsX11_at := goodIn_r _ [33] (by decide +kernel) (by decide +kernel)
set_option maxRecDepth 20000 in
theorem gX11_days_X11_at : GoodIn wsX11_days (va_wsS RX11 115 yX11_at wsX11_at) := goodIn_app (goodIn_of _ (by decide +kernel)) ggX11_days_X11_at
set_option maxRecDepth 20000 in
theorem ggX11_hear_X9_has : GoodIn wsX11_hear wsX9_has := goodIn_r _ [8, 9, 40, 41, 42, 43] (by decide +kernel) (by decide +kernel)
set_option maxRecDepth 20000 in
theorem gX11_hear_X9_has : GoodIn wsX11_hear (wsV RX11 77 RX9 yX9_has wsX9_has) := goodIn_app (goodIn_of _ (by decide +kernel)) ggX11_hear_X9_has
set_option maxRecDepth 20000 in
theorem ggX11_hear_X9_isCompanyOf : GoodIn wsX11_hear wsX9_isCompanyOf := goodIn_r _ [13, 14, 15, 16, 7, 17, 9, 40, 41, 42, 43] (by decide +kernel) (by decide +kernel)
set_option maxRecDepth 20000 in
theorem gX11_hear_X9_isCompanyOf : GoodIn wsX11_hear (wsV RX11 133 RX9 yX9_isCompanyOf wsX9_isCompanyOf) := goodIn_app (goodIn_of _ (by decide +kernel)) ggX11_hear_X9_isCompanyOf
set_option maxRecDepth 20000 in
theorem ggX11_hear_X3_addHeard : GoodIn wsX11_hear wsX3_addHeard := goodIn_r _ [22, 23, 24, 25, 26, 27, 28, 29, 44, 45, 46, 47, 48, 49, 50, 51, 52, 53] (by decide +kernel) (by decide +kernel)
set_option maxRecDepth 20000 in
theorem gX11_hear_X3_addHeard : GoodIn wsX11_hear (wsV RX11 165 RX3 yX3_addHeard wsX3_addHeard) := goodIn_app (goodIn_of _ (by decide +kernel)) ggX11_hear_X3_addHeard
set_option maxRecDepth 20000 in
theorem ggX11_holders_X9_has : GoodIn wsX11_holders wsX9_has := goodIn_r _ [8, 9, 88, 89, 90, 91] (by decide +kernel) (by decide +kernel)
set_option maxRecDepth 20000 in
theorem gX11_holders_X9_has : GoodIn wsX11_holders (wsV RX11 77 RX9 yX9_has wsX9_has) := goodIn_app (goodIn_of _ (by decide +kernel)) ggX11_holders_X9_has
set_option maxRecDepth 20000 in
theorem ggX11_holders_X1_gather : GoodIn wsX11_holders wsX1_gather := goodIn_r _ [14, 15, 16, 17, 18, 19, 20, 21, 22, 13, 23, 24, 25, 26, 27, 28, 29, 30, 31, 32, 33, 34, 7, 35, 36, 37, 38, 39, 40, 41, 42, 43, 5, 6, 8, 9, 44, 45, 46, 47, 48, 49, 50, 51, 52, 53, 54, 55, 56, 57, 58, 59, 60, 61, 62, 63, 64, 65, 66, 67, 68, 69, 84, 85, 86, 87, 88, 89, 90, 91, 92, 93, 94, 95, 96, 97, 98, 99, 100, 101] (by decide +kernel) (by decide +kernel)
set_option maxRecDepth 20000 in
theorem gX11_holders_X1_gather : GoodIn wsX11_holders (wsV RX11 168 RX1 yX1_gather wsX1_gather) := goodIn_app (goodIn_of _ (by decide +kernel)) ggX11_holders_X1_gather
set_option maxRecDepth 20000 in
theorem ggX11_holders_X1_least : GoodIn wsX11_holders wsX1_least := goodIn_r _ [73, 16, 18, 19, 29, 30, 31, 84, 85, 86, 87] (by decide +kernel) (by decide +kernel)
set_option maxRecDepth 20000 in
theorem gX11_holders_X1_least : GoodIn wsX11_holders (wsV RX11 175 RX1 yX1_least wsX1_least) := goodIn_app (goodIn_of _ (by decide +kernel)) ggX11_holders_X1_least
set_option maxRecDepth 20000 in
theorem ggX11_invite_X9_has : GoodIn wsX11_invite wsX9_has := goodIn_r _ [7, 8, 99, 100, 101, 102] (by decide +kernel) (by decide +kernel)
set_option maxRecDepth 20000 in
theorem gX11_invite_X9_has : GoodIn wsX11_invite (wsV RX11 77 RX9 yX9_has wsX9_has) := goodIn_app (goodIn_of _ (by decide +kernel)) ggX11_invite_X9_has
set_option maxRecDepth 20000 in
theorem ggX11_invite_X1_gather : GoodIn wsX11_invite wsX1_gather := goodIn_r _ [13, 14, 15, 16, 17, 18, 19, 20, 21, 12, 22, 23, 24, 25, 26, 27, 28, 29, 30, 31, 32, 33, 6, 34, 35, 36, 37, 38, 39, 40, 41, 42, 4, 5, 7, 8, 43, 44, 45, 46, 47, 48, 49, 50, 51, 52, 53, 54, 55, 56, 57, 58, 59, 60, 61, 62, 63, 64, 65, 66, 67, 68, 103, 104, 105, 106, 99, 100, 101, 102, 107, 108, 109, 110, 111, 112, 113, 114, 115, 116] (by decide +kernel) (by decide +kernel)
set_option maxRecDepth 20000 in
theorem gX11_invite_X1_gather : GoodIn wsX11_invite (wsV RX11 168 RX1 yX1_gather wsX1_gather) := goodIn_app (goodIn_of _ (by decide +kernel)) ggX11_invite_X1_gather
set_option maxRecDepth 20000 in
theorem ggX11_invite_X1_bestCompany : GoodIn wsX11_invite wsX1_bestCompany := goodIn_r _ [72, 15, 16, 14, 73, 74, 75, 6, 76, 77, 78, 79, 80, 8, 81, 82, 83, 12, 84, 17, 18, 85, 86, 87, 88, 28, 29, 30, 31, 32, 33, 34, 35, 36, 37, 38, 39, 40, 41, 42, 4, 5, 7, 43, 44, 45, 46, 47, 48, 49, 50, 51, 52, 53, 54, 55, 56, 57, 58, 59, 60, 61, 62, 63, 64, 65, 66, 103, 104, 105, 106, 99, 100, 101, 102, 107, 108, 109, 110, 111, 112, 113, 114, 115, 116] (by decide +kernel) (by decide +kernel)
set_option maxRecDepth 20000 in
theorem gX11_invite_X1_bestCompany : GoodIn wsX11_invite (wsV RX11 178 RX1 yX1_bestCompany wsX1_bestCompany) := goodIn_app (goodIn_of _ (by decide +kernel)) ggX11_invite_X1_bestCompany
set_option maxRecDepth 20000 in
theorem ggX11_years_X4_play : GoodIn wsX11_years wsX4_play := goodIn_r _ [11, 12, 13, 14, 15, 16, 17, 18, 19, 20, 10, 21, 22, 23, 24, 25, 26, 27, 28, 29, 30, 31, 32, 33, 34, 35, 36, 37, 38, 39, 40, 41, 42, 43, 44, 45, 46, 47, 48, 49, 50, 51, 52, 53, 54, 55, 56, 57, 58, 59, 60, 61, 62, 63, 64, 65, 66, 67, 68, 69, 70, 71, 72, 73, 74, 75, 76, 77, 78, 79, 80, 81, 82, 83, 84, 85, 86, 87, 88, 89, 104, 105, 106, 100, 101, 102, 103, 107, 108, 109, 110, 111, 112, 113, 114, 115, 116] (by decide +kernel) (by decide +kernel)
set_option maxRecDepth 20000 in
theorem gX11_years_X4_play : GoodIn wsX11_years (wsV RX11 182 RX4 yX4_play wsX4_play) := goodIn_app (goodIn_of _ (by decide +kernel)) ggX11_years_X4_play
set_option maxRecDepth 20000 in
theorem ggX11_image_X3_copy : GoodIn wsX11_image wsX3_copy := goodIn_r _ [13, 14, 15, 16, 17, 18, 19, 20, 21, 22, 23, 24, 25, 26, 27, 28, 43, 44, 45, 46, 47, 48, 49, 50, 51, 52] (by decide +kernel) (by decide +kernel)
set_option maxRecDepth 20000 in
theorem gX11_image_X3_copy : GoodIn wsX11_image (wsV RX11 195 RX3 yX3_copy wsX3_copy) := goodIn_app (goodIn_of _ (by decide +kernel)) ggX11_image_X3_copy
set_option maxRecDepth 20000 in
theorem ggX11_restore_X3_copy : GoodIn wsX11_restore wsX3_copy := goodIn_r _ [12, 13, 14, 15, 16, 17, 18, 19, 20, 21, 22, 23, 24, 25, 26, 27, 42, 43, 44, 45, 46, 47, 48, 49, 50, 51] (by decide +kernel) (by decide +kernel)
set_option maxRecDepth 20000 in
theorem gX11_restore_X3_copy : GoodIn wsX11_restore (wsV RX11 195 RX3 yX3_copy wsX3_copy) := goodIn_app (goodIn_of _ (by decide +kernel)) ggX11_restore_X3_copy
set_option maxRecDepth 20000 in
theorem ggX11_count_X9_howManyWritten : GoodIn wsX11_count wsX9_howManyWritten := goodIn_r _ [17, 18, 19, 20, 21, 16, 22, 23, 24, 25, 26, 27, 28, 29, 30, 31, 32, 33, 34, 35, 36, 37, 38, 39, 40, 41, 42, 43, 44, 45, 46, 47, 48, 49, 50, 51, 52, 53, 54, 55, 56, 57, 58, 59, 60, 61, 62, 63, 64, 65, 66, 67, 68, 69, 70, 71, 72, 73, 74, 75, 97, 98, 99, 100, 101, 102, 103, 104, 105, 106, 107, 108, 109, 110] (by decide +kernel) (by decide +kernel)
set_option maxRecDepth 20000 in
theorem gX11_count_X9_howManyWritten : GoodIn wsX11_count (wsV RX11 202 RX9 yX9_howManyWritten wsX9_howManyWritten) := goodIn_app (goodIn_of _ (by decide +kernel)) ggX11_count_X9_howManyWritten
set_option maxRecDepth 20000 in
theorem ggX11_count_X9_quarrellingPairs : GoodIn wsX11_count wsX9_quarrellingPairs := goodIn_r _ [79, 18, 33, 42, 36, 24, 37, 80, 81, 82, 83, 84, 85, 86, 97, 98, 99, 100, 101, 102, 103, 104, 105, 106, 107, 108, 109, 110] (by decide +kernel) (by decide +kernel)
set_option maxRecDepth 20000 in
theorem gX11_count_X9_quarrellingPairs : GoodIn wsX11_count (wsV RX11 206 RX9 yX9_quarrellingPairs wsX9_quarrellingPairs) := goodIn_app (goodIn_of _ (by decide +kernel)) ggX11_count_X9_quarrellingPairs
set_option maxRecDepth 20000 in
theorem ggX11_digest_X11_tellAbout : GoodIn wsX11_digest wsX11_tellAbout := goodIn_r _ [14, 2, 15, 16, 17, 18, 19, 20, 21, 22, 23, 24, 25, 26, 27, 28, 29, 30, 31, 32, 33, 34, 35, 36, 37, 13, 38, 39, 40, 41, 42, 43, 44, 45, 46, 47, 48, 49, 50, 51, 52, 53, 54, 55, 56, 57, 58, 59, 60, 61, 62, 63, 64, 65, 66, 67, 68, 69, 70, 71, 72, 73, 74, 75, 76, 77, 78, 79, 80, 81, 82, 83, 84, 85, 86, 87, 88, 89, 90, 91, 92, 93, 166, 167, 168, 169, 170, 171, 172, 173, 174, 175, 176, 177, 178, 179, 186, 187, 188, 189, 190, 191, 192, 193, 194, 195, 196, 197, 198, 199, 200] (by decide +kernel) (by decide +kernel)
set_option maxRecDepth 20000 in
theorem gX11_digest_X11_tellAbout : GoodIn wsX11_digest (wsV RX11 80 RX11 yX11_tellAbout wsX11_tellAbout) := goodIn_app (goodIn_of _ (by decide +kernel)) ggX11_digest_X11_tellAbout
set_option maxRecDepth 20000 in
theorem ggX11_digest_X1_gather : GoodIn wsX11_digest wsX1_gather := goodIn_r _ [98, 99, 100, 101, 102, 103, 104, 105, 106, 97, 107, 108, 109, 110, 111, 112, 37, 13, 38, 113, 57, 58, 23, 59, 53, 60, 26, 27, 28, 29, 30, 31, 32, 33, 34, 35, 61, 62, 63, 64, 65, 66, 67, 68, 69, 70, 71, 72, 73, 74, 75, 76, 77, 78, 79, 80, 81, 82, 83, 84, 114, 115, 180, 181, 182, 183, 176, 177, 178, 179, 186, 187, 188, 189, 190, 191, 192, 193, 194, 195] (by decide +kernel) (by decide +kernel)
set_option maxRecDepth 20000 in
theorem gX11_digest_X1_gather : GoodIn wsX11_digest (wsV RX11 168 RX1 yX1_gather wsX1_gather) := goodIn_app (goodIn_of _ (by decide +kernel)) ggX11_digest_X1_gather
set_option maxRecDepth 20000 in
theorem ggX11_digest_X1_least : GoodIn wsX11_digest wsX1_least := goodIn_r _ [119, 100, 102, 103, 37, 13, 38, 180, 181, 182, 183] (by decide +kernel) (by decide +kernel)
set_option maxRecDepth 20000 in
theorem gX11_digest_X1_least : GoodIn wsX11_digest (wsV RX11 175 RX1 yX1_least wsX1_least) := goodIn_app (goodIn_of _ (by decide +kernel)) ggX11_digest_X1_least
set_option maxRecDepth 20000 in
theorem ggX11_digest_X1_bestCompany : GoodIn wsX11_digest wsX1_bestCompany := goodIn_r _ [123, 100, 101, 99, 124, 125, 126, 23, 127, 128, 129, 130, 131, 35, 132, 133, 134, 97, 135, 102, 103, 136, 137, 138, 139, 37, 13, 38, 113, 57, 58, 59, 53, 60, 26, 27, 28, 29, 30, 31, 32, 33, 34, 61, 62, 63, 64, 65, 66, 67, 68, 69, 70, 71, 72, 73, 74, 75, 76, 77, 78, 79, 80, 81, 82, 83, 84, 180, 181, 182, 183, 176, 177, 178, 179, 186, 187, 188, 189, 190, 191, 192, 193, 194, 195] (by decide +kernel) (by decide +kernel)
set_option maxRecDepth 20000 in
theorem gX11_digest_X1_bestCompany : GoodIn wsX11_digest (wsV RX11 178 RX1 yX1_bestCompany wsX1_bestCompany) := goodIn_app (goodIn_of _ (by decide +kernel)) ggX11_digest_X1_bestCompany
set_option maxRecDepth 20000 in
theorem ggX11_digest_X11_at : GoodIn wsX11_digest wsX11_at := goodIn_r _ [38] (by decide +kernel) (by decide +kernel)
set_option maxRecDepth 20000 in
theorem gX11_digest_X11_at : GoodIn wsX11_digest (va_wsS RX11 115 yX11_at wsX11_at) := goodIn_app (goodIn_of _ (by decide +kernel)) ggX11_digest_X11_at
set_option maxRecDepth 20000 in
theorem ggX11_digest_X11_count : GoodIn wsX11_digest wsX11_count := goodIn_r _ [143, 2, 3, 15, 18, 144, 145, 146, 7, 8, 147, 148, 149, 150, 151, 152, 23, 153, 35, 154, 46, 47, 48, 40, 13, 41, 42, 43, 44, 93, 50, 51, 52, 53, 54, 55, 37, 38, 56, 57, 58, 59, 60, 26, 27, 28, 29, 30, 31, 32, 33, 34, 61, 62, 63, 64, 65, 66, 67, 68, 69, 70, 71, 72, 73, 74, 75, 76, 77, 78, 79, 80, 81, 82, 83, 84, 155, 156, 157, 158, 159, 160, 161, 162, 163, 164, 165, 166, 167, 168, 169, 170, 171, 172, 173, 174, 175, 176, 177, 178, 179, 186, 187, 188, 189, 190, 191, 192, 193, 194, 195, 184, 185] (by decide +kernel) (by decide +kernel)
set_option maxRecDepth 20000 in
theorem gX11_digest_X11_count : GoodIn wsX11_digest (wsV RX11 216 RX11 yX11_count wsX11_count) := goodIn_app (goodIn_of _ (by decide +kernel)) ggX11_digest_X11_count
set_option maxRecDepth 20000 in
theorem ggX11_tellAbout_X9_kindOf : GoodIn wsX11_tellAbout wsX9_kindOf := goodIn_r _ [11, 12, 13, 14, 15, 10, 16, 17, 18, 19, 20, 21, 22, 106, 107, 108, 109, 110, 92, 93, 94, 95] (by decide +kernel) (by decide +kernel)
set_option maxRecDepth 20000 in
theorem gX11_tellAbout_X9_kindOf : GoodIn wsX11_tellAbout (wsV RX11 219 RX9 yX9_kindOf wsX9_kindOf) := goodIn_app (goodIn_of _ (by decide +kernel)) ggX11_tellAbout_X9_kindOf
set_option maxRecDepth 20000 in
theorem ggX11_tellAbout_X11_at : GoodIn wsX11_tellAbout wsX11_at := goodIn_r _ [26] (by decide +kernel) (by decide +kernel)
set_option maxRecDepth 20000 in
theorem gX11_tellAbout_X11_at : GoodIn wsX11_tellAbout (va_wsS RX11 115 yX11_at wsX11_at) := goodIn_app (goodIn_of _ (by decide +kernel)) ggX11_tellAbout_X11_at
set_option maxRecDepth 20000 in
theorem ggX11_tellAbout_X11_roomIn : GoodIn wsX11_tellAbout wsX11_roomIn := goodIn_r _ [29, 30, 31, 25, 32] (by decide +kernel) (by decide +kernel)
set_option maxRecDepth 20000 in
theorem gX11_tellAbout_X11_roomIn : GoodIn wsX11_tellAbout (va_wsS RX11 98 yX11_roomIn wsX11_roomIn) := goodIn_app (goodIn_of _ (by decide +kernel)) ggX11_tellAbout_X11_roomIn
set_option maxRecDepth 20000 in
theorem ggX11_tellAbout_X9_companyIn : GoodIn wsX11_tellAbout wsX9_companyIn := goodIn_r _ [36, 22, 28, 25, 29, 30, 31, 32, 92, 93, 94, 95] (by decide +kernel) (by decide +kernel)
set_option maxRecDepth 20000 in
theorem gX11_tellAbout_X9_companyIn : GoodIn wsX11_tellAbout (wsV RX11 222 RX9 yX9_companyIn wsX9_companyIn) := goodIn_app (goodIn_of _ (by decide +kernel)) ggX11_tellAbout_X9_companyIn
set_option maxRecDepth 20000 in
theorem ggX11_tellAbout_X9_canWrite : GoodIn wsX11_tellAbout wsX9_canWrite := goodIn_r _ [40, 41, 42, 43, 24, 25, 26, 44, 45, 46, 10, 47, 48, 13, 14, 15, 16, 17, 18, 19, 20, 21, 22, 49, 50, 51, 52, 53, 54, 55, 56, 57, 58, 59, 60, 61, 62, 63, 64, 65, 66, 67, 68, 69, 70, 71, 72, 92, 93, 94, 95, 96, 97, 98, 99, 100, 101, 102, 103, 104, 105] (by decide +kernel) (by decide +kernel)
set_option maxRecDepth 20000 in
theorem gX11_tellAbout_X9_canWrite : GoodIn wsX11_tellAbout (wsV RX11 137 RX9 yX9_canWrite wsX9_canWrite) := goodIn_app (goodIn_of _ (by decide +kernel)) ggX11_tellAbout_X9_canWrite
set_option maxRecDepth 20000 in
theorem ggX11_tellAbout_X9_lettersOfOthers : GoodIn wsX11_tellAbout wsX9_lettersOfOthers := goodIn_r _ [76, 22, 41, 42, 43, 24, 25, 26, 92, 93, 94, 95, 96, 97, 98, 99, 100, 101, 102, 103, 104, 105] (by decide +kernel) (by decide +kernel)
set_option maxRecDepth 20000 in
theorem gX11_tellAbout_X9_lettersOfOthers : GoodIn wsX11_tellAbout (wsV RX11 225 RX9 yX9_lettersOfOthers wsX9_lettersOfOthers) := goodIn_app (goodIn_of _ (by decide +kernel)) ggX11_tellAbout_X9_lettersOfOthers
set_option maxRecDepth 20000 in
theorem ggX11_tellAbout_X9_wants : GoodIn wsX11_tellAbout wsX9_wants := goodIn_r _ [80, 22, 81, 38, 39, 10, 40, 41, 42, 43, 24, 25, 26, 44, 45, 46, 47, 48, 13, 14, 15, 16, 17, 18, 19, 20, 21, 49, 50, 51, 52, 53, 54, 55, 56, 57, 58, 59, 60, 61, 62, 63, 64, 65, 66, 67, 68, 69, 70, 71, 72, 92, 93, 94, 95, 96, 97, 98, 99, 100, 101, 102, 103, 104, 105] (by decide +kernel) (by decide +kernel)
set_option maxRecDepth 20000 in
theorem gX11_tellAbout_X9_wants : GoodIn wsX11_tellAbout (wsV RX11 228 RX9 yX9_wants wsX9_wants) := goodIn_app (goodIn_of _ (by decide +kernel)) ggX11_tellAbout_X9_wants
set_option maxRecDepth 20000 in
theorem ggX11_roomIn_X11_shiftOf : GoodIn wsX11_roomIn wsX11_shiftOf := goodIn_r _ [4] (by decide +kernel) (by decide +kernel)
set_option maxRecDepth 20000 in
theorem gX11_roomIn_X11_shiftOf : GoodIn wsX11_roomIn (va_wsS RX11 239 yX11_shiftOf wsX11_shiftOf) := goodIn_app (goodIn_of _ (by decide +kernel)) ggX11_roomIn_X11_shiftOf
set_option maxRecDepth 20000 in
theorem ggX11_withRoom_X11_shiftOf : GoodIn wsX11_withRoom wsX11_shiftOf := goodIn_r _ [4] (by decide +kernel) (by decide +kernel)
set_option maxRecDepth 20000 in
theorem gX11_withRoom_X11_shiftOf : GoodIn wsX11_withRoom (va_wsS RX11 239 yX11_shiftOf wsX11_shiftOf) := goodIn_app (goodIn_of _ (by decide +kernel)) ggX11_withRoom_X11_shiftOf
set_option maxRecDepth 20000 in
theorem ggX12_letter_X12_within : GoodIn wsX12_letter wsX12_within := goodIn_r _ [6] (by decide +kernel) (by decide +kernel)
set_option maxRecDepth 20000 in
theorem gX12_letter_X12_within : GoodIn wsX12_letter (va_wsS RX12 59 yX12_within wsX12_within) := goodIn_app (goodIn_of _ (by decide +kernel)) ggX12_letter_X12_within
set_option maxRecDepth 20000 in
theorem ggX12_isGood_X12_kindBy : GoodIn wsX12_isGood wsX12_kindBy := goodIn_r _ [5] (by decide +kernel) (by decide +kernel)
set_option maxRecDepth 20000 in
theorem gX12_isGood_X12_kindBy : GoodIn wsX12_isGood (va_wsS RX12 67 yX12_kindBy wsX12_kindBy) := goodIn_app (goodIn_of _ (by decide +kernel)) ggX12_isGood_X12_kindBy
set_option maxRecDepth 20000 in
theorem ggX12_isGood_X12_within : GoodIn wsX12_isGood wsX12_within := goodIn_r _ [8] (by decide +kernel) (by decide +kernel)
set_option maxRecDepth 20000 in
theorem gX12_isGood_X12_within : GoodIn wsX12_isGood (va_wsS RX12 59 yX12_within wsX12_within) := goodIn_app (goodIn_of _ (by decide +kernel)) ggX12_isGood_X12_within
set_option maxRecDepth 20000 in
theorem ggX12_faultNow_X12_isGood : GoodIn wsX12_faultNow wsX12_isGood := goodIn_r _ [7, 2, 8, 9, 6, 10, 11, 12, 13, 18, 19, 20, 21, 22, 23, 24, 25, 26, 27, 28, 29, 30, 31, 32, 33, 34, 35, 36, 37, 38, 39, 40, 41, 42, 43, 44, 45, 46, 47, 48] (by decide +kernel) (by decide +kernel)
set_option maxRecDepth 20000 in
theorem gX12_faultNow_X12_isGood : GoodIn wsX12_faultNow (wsV RX12 71 RX12 yX12_isGood wsX12_isGood) := goodIn_app (goodIn_of _ (by decide +kernel)) ggX12_faultNow_X12_isGood
set_option maxRecDepth 20000 in
theorem ggX12_faultNow_X12_isWhole : GoodIn wsX12_faultNow wsX12_isWhole := goodIn_r _ [17, 1, 18, 19, 20, 21, 22, 23, 24, 25, 26, 27, 28, 29, 30, 31, 32, 33, 34, 35, 36, 37, 38, 39, 40, 41, 42, 43, 44, 45, 46, 47, 48] (by decide +kernel) (by decide +kernel)
set_option maxRecDepth 20000 in
theorem gX12_faultNow_X12_isWhole : GoodIn wsX12_faultNow (wsV RX12 75 RX12 yX12_isWhole wsX12_isWhole) := goodIn_app (goodIn_of _ (by decide +kernel)) ggX12_faultNow_X12_isWhole
end
section
set_option maxRecDepth 20000 in
theorem ggX12_fault_X12_faultNow : GoodIn wsX12_fault wsX12_faultNow := goodIn_r _ [5, 6, 7, 8, 9, 10, 4, 11, 12, 13, 14, 15, 16, 17, 18, 19, 20, 21, 22, 23, 24, 25, 26, 27, 28, 29, 30, 31, 32, 33, 34, 35, 36, 37, 38, 39, 40, 41, 42, 43, 44, 45, 46, 47, 48, 49, 50, 51, 52] (by decide +kernel) (by decide +kernel)
set_option maxRecDepth 20000 in
theorem gX12_fault_X12_faultNow : GoodIn wsX12_fault (wsV RX12 79 RX12 yX12_faultNow wsX12_faultNow) := goodIn_app (goodIn_of _ (by decide +kernel)) ggX12_fault_X12_faultNow
set_option maxRecDepth 20000 in
theorem ggX12_town_X12_isWhole : GoodIn wsX12_town wsX12_isWhole := goodIn_r _ [16, 1, 31, 32, 33, 34, 35, 36, 37, 38, 39, 40, 41, 42, 43, 44, 45, 46, 47, 48, 49, 50, 51, 52, 53, 54, 55, 56, 57, 58, 59, 60, 61] (by decide +kernel) (by decide +kernel)
set_option maxRecDepth 20000 in
theorem gX12_town_X12_isWhole : GoodIn wsX12_town (wsV RX12 75 RX12 yX12_isWhole wsX12_isWhole) := goodIn_app (goodIn_of _ (by decide +kernel)) ggX12_town_X12_isWhole
set_option maxRecDepth 20000 in
theorem ggX12_town_X12_faultNow : GoodIn wsX12_town wsX12_faultNow := goodIn_r _ [20, 1, 4, 21, 22, 23, 15, 24, 25, 26, 27, 28, 29, 30, 12, 13, 14, 16, 31, 32, 33, 34, 35, 36, 37, 38, 39, 40, 41, 42, 43, 44, 45, 46, 47, 48, 49, 50, 51, 52, 53, 54, 55, 56, 57, 58, 59, 60, 61] (by decide +kernel) (by decide +kernel)
set_option maxRecDepth 20000 in
theorem gX12_town_X12_faultNow : GoodIn wsX12_town (wsV RX12 79 RX12 yX12_faultNow wsX12_faultNow) := goodIn_app (goodIn_of _ (by decide +kernel)) ggX12_town_X12_faultNow
set_option maxRecDepth 20000 in
theorem ggX12_town_X12_kindBy : GoodIn wsX12_town wsX12_kindBy := goodIn_r _ [27] (by decide +kernel) (by decide +kernel)
set_option maxRecDepth 20000 in
theorem gX12_town_X12_kindBy : GoodIn wsX12_town (va_wsS RX12 67 yX12_kindBy wsX12_kindBy) := goodIn_app (goodIn_of _ (by decide +kernel)) ggX12_town_X12_kindBy
set_option maxRecDepth 20000 in
theorem ggX12_isOne_X12_within : GoodIn wsX12_isOne wsX12_within := goodIn_r _ [5] (by decide +kernel) (by decide +kernel)
set_option maxRecDepth 20000 in
theorem gX12_isOne_X12_within : GoodIn wsX12_isOne (va_wsS RX12 59 yX12_within wsX12_within) := goodIn_app (goodIn_of _ (by decide +kernel)) ggX12_isOne_X12_within
set_option maxRecDepth 20000 in
theorem ggX12_isCompany_X12_within : GoodIn wsX12_isCompany wsX12_within := goodIn_r _ [5] (by decide +kernel) (by decide +kernel)
set_option maxRecDepth 20000 in
theorem gX12_isCompany_X12_within : GoodIn wsX12_isCompany (va_wsS RX12 59 yX12_within wsX12_within) := goodIn_app (goodIn_of _ (by decide +kernel)) ggX12_isCompany_X12_within
set_option maxRecDepth 20000 in
theorem ggX12_isThere_X12_isIn : GoodIn wsX12_isThere wsX12_isIn := goodIn_r _ [5] (by decide +kernel) (by decide +kernel)
set_option maxRecDepth 20000 in
theorem gX12_isThere_X12_isIn : GoodIn wsX12_isThere (va_wsS RX12 98 yX12_isIn wsX12_isIn) := goodIn_app (goodIn_of _ (by decide +kernel)) ggX12_isThere_X12_isIn
set_option maxRecDepth 20000 in
theorem ggX12_isWrittenBy_X12_isThere : GoodIn wsX12_isWrittenBy wsX12_isThere := goodIn_r _ [6, 7, 8, 9, 5, 10, 11, 12, 13, 14, 15, 16, 17, 18, 19, 20, 21, 22, 23, 24, 25, 26, 27, 28, 29, 30, 31, 32, 33, 34, 35, 36, 37, 38, 39, 40, 41] (by decide +kernel) (by decide +kernel)
set_option maxRecDepth 20000 in
theorem gX12_isWrittenBy_X12_isThere : GoodIn wsX12_isWrittenBy (wsV RX12 102 RX12 yX12_isThere wsX12_isThere) := goodIn_app (goodIn_of _ (by decide +kernel)) ggX12_isWrittenBy_X12_isThere
set_option maxRecDepth 20000 in
theorem ggX12_isWritten_X12_isWrittenBy : GoodIn wsX12_isWritten wsX12_isWrittenBy := goodIn_r _ [6, 7, 8, 9, 10, 5, 11, 12, 13, 14, 15, 16, 17, 18, 19, 20, 21, 22, 23, 24, 25, 26, 27, 28, 29, 30, 31, 32, 33, 34, 35, 36, 37, 38, 39, 40, 41, 42, 43, 44, 45, 46] (by decide +kernel) (by decide +kernel)
set_option maxRecDepth 20000 in
theorem gX12_isWritten_X12_isWrittenBy : GoodIn wsX12_isWritten (wsV RX12 105 RX12 yX12_isWrittenBy wsX12_isWrittenBy) := goodIn_app (goodIn_of _ (by decide +kernel)) ggX12_isWritten_X12_isWrittenBy
set_option maxRecDepth 20000 in
theorem ggX12_isWrittenNow_X12_companyOf : GoodIn wsX12_isWrittenNow wsX12_companyOf := goodIn_r _ [5, 6, 7, 26, 27, 28, 29, 30, 31, 32, 33, 34, 35, 36, 37, 38, 39, 40, 41, 42, 43, 44, 45, 46, 47, 48, 49, 50, 51, 52, 53, 54, 55, 56] (by decide +kernel) (by decide +kernel)
set_option maxRecDepth 20000 in
theorem gX12_isWrittenNow_X12_companyOf : GoodIn wsX12_isWrittenNow (wsV RX12 109 RX12 yX12_companyOf wsX12_companyOf) := goodIn_app (goodIn_of _ (by decide +kernel)) ggX12_isWrittenNow_X12_companyOf
set_option maxRecDepth 20000 in
theorem ggX12_isWrittenNow_X12_isWritten : GoodIn wsX12_isWrittenNow wsX12_isWritten := goodIn_r _ [11, 12, 13, 14, 15, 4, 16, 17, 18, 19, 20, 21, 22, 23, 24, 25, 26, 27, 28, 29, 30, 31, 32, 33, 34, 35, 36, 37, 38, 39, 40, 41, 42, 43, 44, 45, 46, 47, 48, 49, 50, 51, 52, 53, 54, 55, 56] (by decide +kernel) (by decide +kernel)
set_option maxRecDepth 20000 in
theorem gX12_isWrittenNow_X12_isWritten : GoodIn wsX12_isWrittenNow (wsV RX12 112 RX12 yX12_isWritten wsX12_isWritten) := goodIn_app (goodIn_of _ (by decide +kernel)) ggX12_isWrittenNow_X12_isWritten
set_option maxRecDepth 20000 in
theorem ggX12_wantsOf_X12_isIn : GoodIn wsX12_wantsOf wsX12_isIn := goodIn_r _ [5] (by decide +kernel) (by decide +kernel)
set_option maxRecDepth 20000 in
theorem gX12_wantsOf_X12_isIn : GoodIn wsX12_wantsOf (va_wsS RX12 98 yX12_isIn wsX12_isIn) := goodIn_app (goodIn_of _ (by decide +kernel)) ggX12_wantsOf_X12_isIn
set_option maxRecDepth 20000 in
theorem ggX12_wantsOf_X12_isWritten : GoodIn wsX12_wantsOf wsX12_isWritten := goodIn_r _ [9, 10, 11, 12, 13, 4, 14, 15, 16, 17, 18, 19, 20, 2, 3, 5, 21, 22, 23, 24, 25, 26, 27, 28, 29, 30, 31, 32, 33, 34, 35, 36, 37, 38, 39, 40, 41, 42, 43, 44, 45, 46, 47, 48, 49, 50, 51] (by decide +kernel) (by decide +kernel)
set_option maxRecDepth 20000 in
theorem gX12_wantsOf_X12_isWritten : GoodIn wsX12_wantsOf (wsV RX12 112 RX12 yX12_isWritten wsX12_isWritten) := goodIn_app (goodIn_of _ (by decide +kernel)) ggX12_wantsOf_X12_isWritten
set_option maxRecDepth 20000 in
theorem ggX12_oneNow_X12_isWrittenNow : GoodIn wsX12_oneNow wsX12_isWrittenNow := goodIn_r _ [9, 10, 11, 12, 8, 13, 14, 3, 15, 16, 17, 18, 2, 19, 20, 21, 22, 1, 23, 24, 25, 26, 4, 27, 28, 29, 38, 39, 40, 41, 42, 43, 44, 45, 46, 47, 48, 49, 50, 51, 52, 53, 54, 55, 56, 57, 58, 59, 60, 61, 62, 63, 64, 65, 66, 67, 68] (by decide +kernel) (by decide +kernel)
set_option maxRecDepth 20000 in
theorem gX12_oneNow_X12_isWrittenNow : GoodIn wsX12_oneNow (wsV RX12 115 RX12 yX12_isWrittenNow wsX12_isWrittenNow) := goodIn_app (goodIn_of _ (by decide +kernel)) ggX12_oneNow_X12_isWrittenNow
set_option maxRecDepth 20000 in
theorem ggX12_oneNow_X12_companyOf : GoodIn wsX12_oneNow wsX12_companyOf := goodIn_r _ [13, 14, 3, 38, 39, 40, 41, 42, 43, 44, 45, 46, 47, 48, 49, 50, 51, 52, 53, 54, 55, 56, 57, 58, 59, 60, 61, 62, 63, 64, 65, 66, 67, 68] (by decide +kernel) (by decide +kernel)
set_option maxRecDepth 20000 in
theorem gX12_oneNow_X12_companyOf : GoodIn wsX12_oneNow (wsV RX12 109 RX12 yX12_companyOf wsX12_companyOf) := goodIn_app (goodIn_of _ (by decide +kernel)) ggX12_oneNow_X12_companyOf
set_option maxRecDepth 20000 in
theorem ggX12_oneNow_X12_lettersOf : GoodIn wsX12_oneNow wsX12_lettersOf := goodIn_r _ [33, 14, 2, 38, 39, 40, 41, 42, 43, 44, 45, 46, 47, 48, 49, 50, 51, 52, 53, 54, 55, 56, 57, 58, 59, 60, 61, 62, 63, 64, 65, 66, 67, 68] (by decide +kernel) (by decide +kernel)
set_option maxRecDepth 20000 in
theorem gX12_oneNow_X12_lettersOf : GoodIn wsX12_oneNow (wsV RX12 118 RX12 yX12_lettersOf wsX12_lettersOf) := goodIn_app (goodIn_of _ (by decide +kernel)) ggX12_oneNow_X12_lettersOf
set_option maxRecDepth 20000 in
theorem ggX12_oneNow_X12_wantsOf : GoodIn wsX12_oneNow wsX12_wantsOf := goodIn_r _ [37, 14, 27, 28, 8, 29, 15, 16, 17, 18, 2, 19, 20, 21, 22, 1, 23, 24, 25, 26, 4, 38, 39, 40, 41, 42, 43, 44, 45, 46, 47, 48, 49, 50, 51, 52, 53, 54, 55, 56, 57, 58, 59, 60, 61, 62, 63, 64, 65, 66, 67, 68] (by decide +kernel) (by decide +kernel)
set_option maxRecDepth 20000 in
theorem gX12_oneNow_X12_wantsOf : GoodIn wsX12_oneNow (wsV RX12 121 RX12 yX12_wantsOf wsX12_wantsOf) := goodIn_app (goodIn_of _ (by decide +kernel)) ggX12_oneNow_X12_wantsOf
set_option maxRecDepth 20000 in
theorem ggX12_about_X12_isOne : GoodIn wsX12_about wsX12_isOne := goodIn_r _ [5, 6, 7, 8, 4, 9, 49, 50, 51, 52, 53, 54, 55, 56, 57, 58, 59, 60, 61, 62, 63, 64, 65, 66, 67, 68, 69, 70, 71, 72, 73, 74, 75, 76, 77, 78, 79] (by decide +kernel) (by decide +kernel)
set_option maxRecDepth 20000 in
theorem gX12_about_X12_isOne : GoodIn wsX12_about (wsV RX12 124 RX12 yX12_isOne wsX12_isOne) := goodIn_app (goodIn_of _ (by decide +kernel)) ggX12_about_X12_isOne
set_option maxRecDepth 20000 in
theorem ggX12_about_X12_within : GoodIn wsX12_about wsX12_within := goodIn_r _ [9] (by decide +kernel) (by decide +kernel)
set_option maxRecDepth 20000 in
theorem gX12_about_X12_within : GoodIn wsX12_about (va_wsS RX12 59 yX12_within wsX12_within) := goodIn_app (goodIn_of _ (by decide +kernel)) ggX12_about_X12_within
set_option maxRecDepth 20000 in
theorem ggX12_about_X12_oneNow : GoodIn wsX12_about wsX12_oneNow := goodIn_r _ [13, 14, 15, 16, 17, 18, 19, 20, 4, 21, 22, 23, 24, 25, 6, 26, 27, 28, 29, 30, 31, 32, 33, 34, 35, 36, 37, 38, 39, 40, 41, 42, 43, 44, 45, 46, 47, 48, 49, 50, 51, 52, 53, 54, 55, 56, 57, 58, 59, 60, 61, 62, 63, 64, 65, 66, 67, 68, 69, 70, 71, 72, 73, 74, 75, 76, 77, 78, 79] (by decide +kernel) (by decide +kernel)
set_option maxRecDepth 20000 in
theorem gX12_about_X12_oneNow : GoodIn wsX12_about (wsV RX12 127 RX12 yX12_oneNow wsX12_oneNow) := goodIn_app (goodIn_of _ (by decide +kernel)) ggX12_about_X12_oneNow
set_option maxRecDepth 20000 in
theorem ggX12_as_X12_isOne : GoodIn wsX12_as wsX12_isOne := goodIn_r _ [6, 7, 8, 9, 5, 10, 11, 12, 13, 14, 15, 16, 17, 18, 19, 20, 21, 22, 23, 24, 25, 26, 27, 28, 29, 30, 31, 32, 33, 34, 35, 36, 37, 38, 39, 40, 41] (by decide +kernel) (by decide +kernel)
set_option maxRecDepth 20000 in
theorem gX12_as_X12_isOne : GoodIn wsX12_as (wsV RX12 124 RX12 yX12_isOne wsX12_isOne) := goodIn_app (goodIn_of _ (by decide +kernel)) ggX12_as_X12_isOne
set_option maxRecDepth 20000 in
theorem ggX12_as_X12_within : GoodIn wsX12_as wsX12_within := goodIn_r _ [10] (by decide +kernel) (by decide +kernel)
set_option maxRecDepth 20000 in
theorem gX12_as_X12_within : GoodIn wsX12_as (va_wsS RX12 59 yX12_within wsX12_within) := goodIn_app (goodIn_of _ (by decide +kernel)) ggX12_as_X12_within
set_option maxRecDepth 20000 in
theorem ggX12_go_X12_isOne : GoodIn wsX12_go wsX12_isOne := goodIn_r _ [7, 8, 9, 10, 6, 11, 12, 13, 14, 15, 16, 17, 18, 19, 20, 21, 22, 23, 24, 25, 26, 27, 28, 29, 30, 31, 32, 33, 34, 35, 36, 37, 38, 39, 40, 41, 42] (by decide +kernel) (by decide +kernel)
set_option maxRecDepth 20000 in
theorem gX12_go_X12_isOne : GoodIn wsX12_go (wsV RX12 124 RX12 yX12_isOne wsX12_isOne) := goodIn_app (goodIn_of _ (by decide +kernel)) ggX12_go_X12_isOne
set_option maxRecDepth 20000 in
theorem ggX12_go_X12_within : GoodIn wsX12_go wsX12_within := goodIn_r _ [11] (by decide +kernel) (by decide +kernel)
set_option maxRecDepth 20000 in
theorem gX12_go_X12_within : GoodIn wsX12_go (va_wsS RX12 59 yX12_within wsX12_within) := goodIn_app (goodIn_of _ (by decide +kernel)) ggX12_go_X12_within
set_option maxRecDepth 20000 in
theorem ggX12_sell_X12_isOne : GoodIn wsX12_sell wsX12_isOne := goodIn_r _ [7, 8, 9, 10, 6, 11, 12, 13, 14, 15, 16, 17, 18, 19, 20, 21, 22, 23, 24, 25, 26, 27, 28, 29, 30, 31, 32, 33, 34, 35, 36, 37, 38, 39, 40, 41, 42] (by decide +kernel) (by decide +kernel)
set_option maxRecDepth 20000 in
theorem gX12_sell_X12_isOne : GoodIn wsX12_sell (wsV RX12 124 RX12 yX12_isOne wsX12_isOne) := goodIn_app (goodIn_of _ (by decide +kernel)) ggX12_sell_X12_isOne
set_option maxRecDepth 20000 in
theorem ggX12_sell_X12_within : GoodIn wsX12_sell wsX12_within := goodIn_r _ [11] (by decide +kernel) (by decide +kernel)
set_option maxRecDepth 20000 in
theorem gX12_sell_X12_within : GoodIn wsX12_sell (va_wsS RX12 59 yX12_within wsX12_within) := goodIn_app (goodIn_of _ (by decide +kernel)) ggX12_sell_X12_within
set_option maxRecDepth 20000 in
theorem ggX12_quarrel_X12_isOne : GoodIn wsX12_quarrel wsX12_isOne := goodIn_r _ [6, 7, 8, 9, 5, 10, 14, 15, 16, 17, 18, 19, 20, 21, 22, 23, 24, 25, 26, 27, 28, 29, 30, 31, 32, 33, 34, 35, 36, 37, 38, 39, 40, 41, 42, 43, 44] (by decide +kernel) (by decide +kernel)
set_option maxRecDepth 20000 in
theorem gX12_quarrel_X12_isOne : GoodIn wsX12_quarrel (wsV RX12 124 RX12 yX12_isOne wsX12_isOne) := goodIn_app (goodIn_of _ (by decide +kernel)) ggX12_quarrel_X12_isOne
set_option maxRecDepth 20000 in
theorem ggX12_quarrel_X12_with : GoodIn wsX12_quarrel wsX12_with := goodIn_r _ [13] (by decide +kernel) (by decide +kernel)
set_option maxRecDepth 20000 in
theorem gX12_quarrel_X12_with : GoodIn wsX12_quarrel (va_wsS RX12 131 yX12_with wsX12_with) := goodIn_app (goodIn_of _ (by decide +kernel)) ggX12_quarrel_X12_with
set_option maxRecDepth 20000 in
theorem ggX12_written_X12_isOne : GoodIn wsX12_written wsX12_isOne := goodIn_r _ [5, 6, 7, 8, 4, 9, 32, 33, 34, 35, 36, 37, 38, 39, 40, 41, 42, 43, 44, 45, 46, 47, 48, 49, 50, 51, 52, 53, 54, 55, 56, 57, 58, 59, 60, 61, 62] (by decide +kernel) (by decide +kernel)
set_option maxRecDepth 20000 in
theorem gX12_written_X12_isOne : GoodIn wsX12_written (wsV RX12 124 RX12 yX12_isOne wsX12_isOne) := goodIn_app (goodIn_of _ (by decide +kernel)) ggX12_written_X12_isOne
set_option maxRecDepth 20000 in
theorem ggX12_written_X12_isCompany : GoodIn wsX12_written wsX12_isCompany := goodIn_r _ [13, 6, 7, 8, 4, 9, 32, 33, 34, 35, 36, 37, 38, 39, 40, 41, 42, 43, 44, 45, 46, 47, 48, 49, 50, 51, 52, 53, 54, 55, 56, 57, 58, 59, 60, 61, 62] (by decide +kernel) (by decide +kernel)
set_option maxRecDepth 20000 in
theorem gX12_written_X12_isCompany : GoodIn wsX12_written (wsV RX12 135 RX12 yX12_isCompany wsX12_isCompany) := goodIn_app (goodIn_of _ (by decide +kernel)) ggX12_written_X12_isCompany
set_option maxRecDepth 20000 in
theorem ggX12_written_X12_isIn : GoodIn wsX12_written wsX12_isIn := goodIn_r _ [16] (by decide +kernel) (by decide +kernel)
set_option maxRecDepth 20000 in
theorem gX12_written_X12_isIn : GoodIn wsX12_written (va_wsS RX12 98 yX12_isIn wsX12_isIn) := goodIn_app (goodIn_of _ (by decide +kernel)) ggX12_written_X12_isIn
set_option maxRecDepth 20000 in
theorem ggX12_written_X12_isWritten : GoodIn wsX12_written wsX12_isWritten := goodIn_r _ [20, 21, 22, 23, 24, 4, 25, 26, 27, 28, 29, 30, 31, 14, 15, 16, 32, 33, 34, 35, 36, 37, 38, 39, 40, 41, 42, 43, 44, 45, 46, 47, 48, 49, 50, 51, 52, 53, 54, 55, 56, 57, 58, 59, 60, 61, 62] (by decide +kernel) (by decide +kernel)
set_option maxRecDepth 20000 in
theorem gX12_written_X12_isWritten : GoodIn wsX12_written (wsV RX12 112 RX12 yX12_isWritten wsX12_isWritten) := goodIn_app (goodIn_of _ (by decide +kernel)) ggX12_written_X12_isWritten
set_option maxRecDepth 20000 in
theorem ggX12_movesBy_X12_roomBy : GoodIn wsX12_movesBy wsX12_roomBy := goodIn_r _ [7, 1, 8, 9, 10, 11, 12, 13, 14, 15, 16, 17, 18, 19, 20, 21, 22, 23, 24, 25, 26, 27, 28, 29, 30, 31, 32, 33, 34, 35, 36, 37, 38] (by decide +kernel) (by decide +kernel)
set_option maxRecDepth 20000 in
theorem gX12_movesBy_X12_roomBy : GoodIn wsX12_movesBy (wsV RX12 138 RX12 yX12_roomBy wsX12_roomBy) := goodIn_app (goodIn_of _ (by decide +kernel)) ggX12_movesBy_X12_roomBy
set_option maxRecDepth 20000 in
theorem ggX12_isWrittenIf_X12_roomBy : GoodIn wsX12_isWrittenIf wsX12_roomBy := goodIn_r _ [6, 1, 25, 26, 27, 28, 29, 30, 31, 32, 33, 34, 35, 36, 37, 38, 39, 40, 41, 42, 43, 44, 45, 46, 47, 48, 49, 50, 51, 52, 53, 54, 55] (by decide +kernel) (by decide +kernel)
set_option maxRecDepth 20000 in
theorem gX12_isWrittenIf_X12_roomBy : GoodIn wsX12_isWrittenIf (wsV RX12 138 RX12 yX12_roomBy wsX12_roomBy) := goodIn_app (goodIn_of _ (by decide +kernel)) ggX12_isWrittenIf_X12_roomBy
set_option maxRecDepth 20000 in
theorem ggX12_isWrittenIf_X12_isWritten : GoodIn wsX12_isWrittenIf wsX12_isWritten := goodIn_r _ [10, 11, 12, 13, 14, 5, 15, 16, 17, 18, 19, 20, 21, 22, 23, 24, 25, 26, 27, 28, 29, 30, 31, 32, 33, 34, 35, 36, 37, 38, 39, 40, 41, 42, 43, 44, 45, 46, 47, 48, 49, 50, 51, 52, 53, 54, 55] (by decide +kernel) (by decide +kernel)
set_option maxRecDepth 20000 in
theorem gX12_isWrittenIf_X12_isWritten : GoodIn wsX12_isWrittenIf (wsV RX12 112 RX12 yX12_isWritten wsX12_isWritten) := goodIn_app (goodIn_of _ (by decide +kernel)) ggX12_isWrittenIf_X12_isWritten
set_option maxRecDepth 20000 in
theorem ggX12_movesNow_X12_movesBy : GoodIn wsX12_movesNow wsX12_movesBy := goodIn_r _ [7, 2, 8, 9, 10, 11, 6, 12, 42, 43, 44, 45, 46, 47, 48, 49, 50, 51, 52, 53, 54, 55, 56, 57, 58, 59, 60, 61, 62, 63, 64, 65, 66, 67, 68, 69, 70, 71, 72] (by decide +kernel) (by decide +kernel)
set_option maxRecDepth 20000 in
theorem gX12_movesNow_X12_movesBy : GoodIn wsX12_movesNow (wsV RX12 142 RX12 yX12_movesBy wsX12_movesBy) := goodIn_app (goodIn_of _ (by decide +kernel)) ggX12_movesNow_X12_movesBy
set_option maxRecDepth 20000 in
theorem ggX12_movesNow_X12_isWrittenIf : GoodIn wsX12_movesNow wsX12_isWrittenIf := goodIn_r _ [16, 2, 9, 10, 11, 6, 12, 17, 18, 19, 20, 21, 22, 23, 24, 25, 26, 27, 28, 29, 30, 31, 32, 33, 34, 42, 43, 44, 45, 46, 47, 48, 49, 50, 51, 52, 53, 54, 55, 56, 57, 58, 59, 60, 61, 62, 63, 64, 65, 66, 67, 68, 69, 70, 71, 72] (by decide +kernel) (by decide +kernel)
set_option maxRecDepth 20000 in
theorem gX12_movesNow_X12_isWrittenIf : GoodIn wsX12_movesNow (wsV RX12 145 RX12 yX12_isWrittenIf wsX12_isWrittenIf) := goodIn_app (goodIn_of _ (by decide +kernel)) ggX12_movesNow_X12_isWrittenIf
set_option maxRecDepth 20000 in
theorem ggX12_movesNow_X12_isOne : GoodIn wsX12_movesNow wsX12_isOne := goodIn_r _ [38, 2, 39, 40, 6, 41, 42, 43, 44, 45, 46, 47, 48, 49, 50, 51, 52, 53, 54, 55, 56, 57, 58, 59, 60, 61, 62, 63, 64, 65, 66, 67, 68, 69, 70, 71, 72] (by decide +kernel) (by decide +kernel)
set_option maxRecDepth 20000 in
theorem gX12_movesNow_X12_isOne : GoodIn wsX12_movesNow (wsV RX12 124 RX12 yX12_isOne wsX12_isOne) := goodIn_app (goodIn_of _ (by decide +kernel)) ggX12_movesNow_X12_isOne
set_option maxRecDepth 20000 in
theorem ggX12_movesNow_X12_roomBy : GoodIn wsX12_movesNow wsX12_roomBy := goodIn_r _ [12, 2, 42, 43, 44, 45, 46, 47, 48, 49, 50, 51, 52, 53, 54, 55, 56, 57, 58, 59, 60, 61, 62, 63, 64, 65, 66, 67, 68, 69, 70, 71, 72] (by decide +kernel) (by decide +kernel)
set_option maxRecDepth 20000 in
theorem gX12_movesNow_X12_roomBy : GoodIn wsX12_movesNow (wsV RX12 138 RX12 yX12_roomBy wsX12_roomBy) := goodIn_app (goodIn_of _ (by decide +kernel)) ggX12_movesNow_X12_roomBy
set_option maxRecDepth 20000 in
theorem ggX12_moves_X12_isOne : GoodIn wsX12_moves wsX12_isOne := goodIn_r _ [6, 7, 8, 9, 5, 10, 47, 48, 49, 50, 51, 52, 53, 54, 55, 56, 57, 58, 59, 60, 61, 62, 63, 64, 65, 66, 67, 68, 69, 70, 71, 72, 73, 74, 75, 76, 77] (by decide +kernel) (by decide +kernel)
set_option maxRecDepth 20000 in
theorem gX12_moves_X12_isOne : GoodIn wsX12_moves (wsV RX12 124 RX12 yX12_isOne wsX12_isOne) := goodIn_app (goodIn_of _ (by decide +kernel)) ggX12_moves_X12_isOne
set_option maxRecDepth 20000 in
theorem ggX12_moves_X12_within : GoodIn wsX12_moves wsX12_within := goodIn_r _ [10] (by decide +kernel) (by decide +kernel)
set_option maxRecDepth 20000 in
theorem gX12_moves_X12_within : GoodIn wsX12_moves (va_wsS RX12 59 yX12_within wsX12_within) := goodIn_app (goodIn_of _ (by decide +kernel)) ggX12_moves_X12_within
set_option maxRecDepth 20000 in
theorem ggX12_moves_X12_movesNow : GoodIn wsX12_moves wsX12_movesNow := goodIn_r _ [14, 15, 7, 16, 17, 18, 5, 19, 20, 21, 22, 23, 24, 25, 26, 27, 28, 29, 30, 31, 32, 33, 34, 35, 36, 37, 38, 39, 40, 41, 42, 43, 44, 45, 46, 2, 3, 4, 6, 8, 9, 10, 47, 48, 49, 50, 51, 52, 53, 54, 55, 56, 57, 58, 59, 60, 61, 62, 63, 64, 65, 66, 67, 68, 69, 70, 71, 72, 73, 74, 75, 76, 77] (by decide +kernel) (by decide +kernel)
set_option maxRecDepth 20000 in
theorem gX12_moves_X12_movesNow : GoodIn wsX12_moves (wsV RX12 151 RX12 yX12_movesNow wsX12_movesNow) := goodIn_app (goodIn_of _ (by decide +kernel)) ggX12_moves_X12_movesNow
set_option maxRecDepth 20000 in
theorem ggX12_layWritten_X12_isIn : GoodIn wsX12_layWritten wsX12_isIn := goodIn_r _ [6] (by decide +kernel) (by decide +kernel)
set_option maxRecDepth 20000 in
theorem gX12_layWritten_X12_isIn : GoodIn wsX12_layWritten (va_wsS RX12 98 yX12_isIn wsX12_isIn) := goodIn_app (goodIn_of _ (by decide +kernel)) ggX12_layWritten_X12_isIn
set_option maxRecDepth 20000 in
theorem ggX12_layWritten_X12_isWritten : GoodIn wsX12_layWritten wsX12_isWritten := goodIn_r _ [10, 11, 12, 13, 14, 5, 15, 16, 17, 18, 19, 20, 21, 3, 4, 6, 22, 23, 24, 25, 26, 27, 28, 29, 30, 31, 32, 33, 34, 35, 36, 37, 38, 39, 40, 41, 42, 43, 44, 45, 46, 47, 48, 49, 50, 51, 52] (by decide +kernel) (by decide +kernel)
set_option maxRecDepth 20000 in
theorem gX12_layWritten_X12_isWritten : GoodIn wsX12_layWritten (wsV RX12 112 RX12 yX12_isWritten wsX12_isWritten) := goodIn_app (goodIn_of _ (by decide +kernel)) ggX12_layWritten_X12_isWritten
set_option maxRecDepth 20000 in
theorem ggX12_daysNow_X12_layWritten : GoodIn wsX12_daysNow wsX12_layWritten := goodIn_r _ [5, 6, 7, 8, 9, 4, 10, 11, 12, 13, 14, 15, 16, 17, 18, 19, 20, 21, 22, 23, 24, 25, 30, 31, 32, 33, 34, 35, 36, 37, 38, 39, 40, 41, 42, 43, 44, 45, 46, 47, 48, 49, 50, 51, 52, 53, 54, 55, 56, 57, 58, 59, 60] (by decide +kernel) (by decide +kernel)
set_option maxRecDepth 20000 in
theorem gX12_daysNow_X12_layWritten : GoodIn wsX12_daysNow (wsV RX12 154 RX12 yX12_layWritten wsX12_layWritten) := goodIn_app (goodIn_of _ (by decide +kernel)) ggX12_daysNow_X12_layWritten
set_option maxRecDepth 20000 in
theorem ggX12_daysNow_X12_writtenBy : GoodIn wsX12_daysNow wsX12_writtenBy := goodIn_r _ [29, 6, 7, 30, 31, 32, 33, 34, 35, 36, 37, 38, 39, 40, 41, 42, 43, 44, 45, 46, 47, 48, 49, 50, 51, 52, 53, 54, 55, 56, 57, 58, 59, 60] (by decide +kernel) (by decide +kernel)
set_option maxRecDepth 20000 in
theorem gX12_daysNow_X12_writtenBy : GoodIn wsX12_daysNow (wsV RX12 157 RX12 yX12_writtenBy wsX12_writtenBy) := goodIn_app (goodIn_of _ (by decide +kernel)) ggX12_daysNow_X12_writtenBy
set_option maxRecDepth 20000 in
theorem ggX12_days_X12_isCompany : GoodIn wsX12_days wsX12_isCompany := goodIn_r _ [7, 1, 8, 9, 6, 10, 42, 43, 44, 45, 46, 47, 48, 49, 50, 51, 52, 53, 54, 55, 56, 57, 58, 59, 60, 61, 62, 63, 64, 65, 66, 67, 68, 69, 70, 71, 72] (by decide +kernel) (by decide +kernel)
set_option maxRecDepth 20000 in
theorem gX12_days_X12_isCompany : GoodIn wsX12_days (wsV RX12 135 RX12 yX12_isCompany wsX12_isCompany) := goodIn_app (goodIn_of _ (by decide +kernel)) ggX12_days_X12_isCompany
set_option maxRecDepth 20000 in
theorem ggX12_days_X12_within : GoodIn wsX12_days wsX12_within := goodIn_r _ [10] (by decide +kernel) (by decide +kernel)
set_option maxRecDepth 20000 in
theorem gX12_days_X12_within : GoodIn wsX12_days (va_wsS RX12 59 yX12_within wsX12_within) := goodIn_app (goodIn_of _ (by decide +kernel)) ggX12_days_X12_within
set_option maxRecDepth 20000 in
theorem ggX12_days_X12_daysNow : GoodIn wsX12_days wsX12_daysNow := goodIn_r _ [14, 15, 16, 17, 6, 18, 1, 19, 20, 21, 22, 23, 24, 25, 26, 27, 28, 29, 30, 31, 32, 33, 34, 35, 36, 37, 38, 39, 40, 41, 42, 43, 44, 45, 46, 47, 48, 49, 50, 51, 52, 53, 54, 55, 56, 57, 58, 59, 60, 61, 62, 63, 64, 65, 66, 67, 68, 69, 70, 71, 72] (by decide +kernel) (by decide +kernel)
set_option maxRecDepth 20000 in
theorem gX12_days_X12_daysNow : GoodIn wsX12_days (wsV RX12 163 RX12 yX12_daysNow wsX12_daysNow) := goodIn_app (goodIn_of _ (by decide +kernel)) ggX12_days_X12_daysNow
set_option maxRecDepth 20000 in
theorem ggX12_hear_X12_isOne : GoodIn wsX12_hear wsX12_isOne := goodIn_r _ [9, 10, 11, 12, 8, 13, 21, 22, 23, 24, 25, 26, 27, 28, 29, 30, 31, 32, 33, 34, 35, 36, 37, 38, 39, 40, 41, 42, 43, 44, 45, 46, 47, 48, 49, 50, 51] (by decide +kernel) (by decide +kernel)
set_option maxRecDepth 20000 in
theorem gX12_hear_X12_isOne : GoodIn wsX12_hear (wsV RX12 124 RX12 yX12_isOne wsX12_isOne) := goodIn_app (goodIn_of _ (by decide +kernel)) ggX12_hear_X12_isOne
set_option maxRecDepth 20000 in
theorem ggX12_hear_X12_isCompany : GoodIn wsX12_hear wsX12_isCompany := goodIn_r _ [17, 10, 11, 12, 8, 13, 21, 22, 23, 24, 25, 26, 27, 28, 29, 30, 31, 32, 33, 34, 35, 36, 37, 38, 39, 40, 41, 42, 43, 44, 45, 46, 47, 48, 49, 50, 51] (by decide +kernel) (by decide +kernel)
set_option maxRecDepth 20000 in
theorem gX12_hear_X12_isCompany : GoodIn wsX12_hear (wsV RX12 135 RX12 yX12_isCompany wsX12_isCompany) := goodIn_app (goodIn_of _ (by decide +kernel)) ggX12_hear_X12_isCompany
set_option maxRecDepth 20000 in
theorem ggX12_hear_X12_isIn : GoodIn wsX12_hear wsX12_isIn := goodIn_r _ [20] (by decide +kernel) (by decide +kernel)
set_option maxRecDepth 20000 in
theorem gX12_hear_X12_isIn : GoodIn wsX12_hear (va_wsS RX12 98 yX12_isIn wsX12_isIn) := goodIn_app (goodIn_of _ (by decide +kernel)) ggX12_hear_X12_isIn
set_option maxRecDepth 20000 in
theorem ggX12_couldHold_X12_isWrittenBy : GoodIn wsX12_couldHold wsX12_isWrittenBy := goodIn_r _ [9, 10, 11, 12, 13, 8, 14, 15, 16, 17, 18, 19, 20, 21, 22, 23, 24, 25, 26, 27, 28, 29, 30, 31, 32, 33, 34, 35, 36, 37, 38, 39, 40, 41, 42, 43, 44, 45, 46, 47, 48, 49] (by decide +kernel) (by decide +kernel)
set_option maxRecDepth 20000 in
theorem gX12_couldHold_X12_isWrittenBy : GoodIn wsX12_couldHold (wsV RX12 105 RX12 yX12_isWrittenBy wsX12_isWrittenBy) := goodIn_app (goodIn_of _ (by decide +kernel)) ggX12_couldHold_X12_isWrittenBy
set_option maxRecDepth 20000 in
theorem ggX12_holdersNow_X12_couldHold : GoodIn wsX12_holdersNow wsX12_couldHold := goodIn_r _ [6, 7, 8, 9, 10, 11, 12, 13, 5, 14, 15, 16, 17, 18, 19, 20, 21, 22, 23, 24, 25, 26, 27, 28, 29, 30, 31, 32, 33, 34, 35, 36, 37, 38, 39, 40, 41, 42, 43, 44, 45, 46, 47, 48, 49, 50, 51, 52, 53, 54] (by decide +kernel) (by decide +kernel)
set_option maxRecDepth 20000 in
theorem gX12_holdersNow_X12_couldHold : GoodIn wsX12_holdersNow (wsV RX12 166 RX12 yX12_couldHold wsX12_couldHold) := goodIn_app (goodIn_of _ (by decide +kernel)) ggX12_holdersNow_X12_couldHold
set_option maxRecDepth 20000 in
theorem ggX12_holders_X12_isOne : GoodIn wsX12_holders wsX12_isOne := goodIn_r _ [5, 6, 7, 8, 4, 9, 35, 36, 37, 38, 39, 40, 41, 42, 43, 44, 45, 46, 47, 48, 49, 50, 51, 52, 53, 54, 55, 56, 57, 58, 59, 60, 61, 62, 63, 64, 65] (by decide +kernel) (by decide +kernel)
set_option maxRecDepth 20000 in
theorem gX12_holders_X12_isOne : GoodIn wsX12_holders (wsV RX12 124 RX12 yX12_isOne wsX12_isOne) := goodIn_app (goodIn_of _ (by decide +kernel)) ggX12_holders_X12_isOne
set_option maxRecDepth 20000 in
theorem ggX12_holders_X12_within : GoodIn wsX12_holders wsX12_within := goodIn_r _ [9] (by decide +kernel) (by decide +kernel)
set_option maxRecDepth 20000 in
theorem gX12_holders_X12_within : GoodIn wsX12_holders (va_wsS RX12 59 yX12_within wsX12_within) := goodIn_app (goodIn_of _ (by decide +kernel)) ggX12_holders_X12_within
set_option maxRecDepth 20000 in
theorem ggX12_holders_X12_holdersNow : GoodIn wsX12_holders wsX12_holdersNow := goodIn_r _ [13, 6, 14, 15, 16, 4, 17, 18, 19, 20, 21, 22, 23, 24, 25, 26, 27, 28, 29, 30, 31, 32, 33, 34, 35, 36, 37, 38, 39, 40, 41, 42, 43, 44, 45, 46, 47, 48, 49, 50, 51, 52, 53, 54, 55, 56, 57, 58, 59, 60, 61, 62, 63, 64, 65] (by decide +kernel) (by decide +kernel)
set_option maxRecDepth 20000 in
theorem gX12_holders_X12_holdersNow : GoodIn wsX12_holders (wsV RX12 169 RX12 yX12_holdersNow wsX12_holdersNow) := goodIn_app (goodIn_of _ (by decide +kernel)) ggX12_holders_X12_holdersNow
set_option maxRecDepth 20000 in
theorem ggX12_writtenWays_X12_couldHold : GoodIn wsX12_writtenWays wsX12_couldHold := goodIn_r _ [6, 7, 8, 9, 10, 11, 12, 13, 5, 14, 15, 16, 17, 18, 19, 20, 21, 22, 23, 24, 25, 26, 27, 28, 29, 30, 31, 32, 33, 34, 35, 36, 37, 38, 39, 40, 41, 42, 43, 44, 45, 46, 47, 48, 49, 50, 51, 52, 53, 54] (by decide +kernel) (by decide +kernel)
set_option maxRecDepth 20000 in
theorem gX12_writtenWays_X12_couldHold : GoodIn wsX12_writtenWays (wsV RX12 166 RX12 yX12_couldHold wsX12_couldHold) := goodIn_app (goodIn_of _ (by decide +kernel)) ggX12_writtenWays_X12_couldHold
set_option maxRecDepth 20000 in
theorem ggX12_writtenWays_X12_isWrittenBy : GoodIn wsX12_writtenWays wsX12_isWrittenBy := goodIn_r _ [14, 15, 16, 17, 18, 5, 19, 20, 21, 22, 23, 24, 25, 26, 27, 28, 29, 30, 31, 32, 33, 34, 35, 36, 37, 38, 39, 40, 41, 42, 43, 44, 45, 46, 47, 48, 49, 50, 51, 52, 53, 54] (by decide +kernel) (by decide +kernel)
set_option maxRecDepth 20000 in
theorem gX12_writtenWays_X12_isWrittenBy : GoodIn wsX12_writtenWays (wsV RX12 105 RX12 yX12_isWrittenBy wsX12_isWrittenBy) := goodIn_app (goodIn_of _ (by decide +kernel)) ggX12_writtenWays_X12_isWrittenBy
set_option maxRecDepth 20000 in
theorem ggX12_inviteNow_X12_holdersNow : GoodIn wsX12_inviteNow wsX12_holdersNow := goodIn_r _ [7, 2, 8, 9, 10, 6, 11, 12, 13, 14, 15, 16, 17, 18, 19, 20, 21, 22, 23, 24, 25, 26, 27, 28, 33, 34, 35, 36, 37, 38, 39, 40, 41, 42, 43, 44, 45, 46, 47, 48, 49, 50, 51, 52, 53, 54, 55, 56, 57, 58, 59, 60, 61, 62, 63] (by decide +kernel) (by decide +kernel)
set_option maxRecDepth 20000 in
theorem gX12_inviteNow_X12_holdersNow : GoodIn wsX12_inviteNow (wsV RX12 169 RX12 yX12_holdersNow wsX12_holdersNow) := goodIn_app (goodIn_of _ (by decide +kernel)) ggX12_inviteNow_X12_holdersNow
set_option maxRecDepth 20000 in
theorem ggX12_inviteNow_X12_isIn : GoodIn wsX12_inviteNow wsX12_isIn := goodIn_r _ [28] (by decide +kernel) (by decide +kernel)
set_option maxRecDepth 20000 in
theorem gX12_inviteNow_X12_isIn : GoodIn wsX12_inviteNow (va_wsS RX12 98 yX12_isIn wsX12_isIn) := goodIn_app (goodIn_of _ (by decide +kernel)) ggX12_inviteNow_X12_isIn
set_option maxRecDepth 20000 in
theorem ggX12_inviteNow_X12_writtenWays : GoodIn wsX12_inviteNow wsX12_writtenWays := goodIn_r _ [32, 2, 8, 9, 10, 6, 11, 12, 13, 14, 15, 16, 17, 18, 19, 20, 21, 22, 23, 24, 25, 26, 27, 28, 33, 34, 35, 36, 37, 38, 39, 40, 41, 42, 43, 44, 45, 46, 47, 48, 49, 50, 51, 52, 53, 54, 55, 56, 57, 58, 59, 60, 61, 62, 63] (by decide +kernel) (by decide +kernel)
set_option maxRecDepth 20000 in
theorem gX12_inviteNow_X12_writtenWays : GoodIn wsX12_inviteNow (wsV RX12 172 RX12 yX12_writtenWays wsX12_writtenWays) := goodIn_app (goodIn_of _ (by decide +kernel)) ggX12_inviteNow_X12_writtenWays
set_option maxRecDepth 20000 in
theorem ggX12_invite_X12_isOne : GoodIn wsX12_invite wsX12_isOne := goodIn_r _ [5, 6, 7, 8, 4, 9, 44, 45, 46, 47, 48, 49, 50, 51, 52, 53, 54, 55, 56, 57, 58, 59, 60, 61, 62, 63, 64, 65, 66, 67, 68, 69, 70, 71, 72, 73, 74] (by decide +kernel) (by decide +kernel)
set_option maxRecDepth 20000 in
theorem gX12_invite_X12_isOne : GoodIn wsX12_invite (wsV RX12 124 RX12 yX12_isOne wsX12_isOne) := goodIn_app (goodIn_of _ (by decide +kernel)) ggX12_invite_X12_isOne
set_option maxRecDepth 20000 in
theorem ggX12_invite_X12_inviteNow : GoodIn wsX12_invite wsX12_inviteNow := goodIn_r _ [13, 14, 6, 15, 16, 17, 4, 18, 19, 20, 21, 22, 23, 24, 25, 26, 27, 28, 29, 30, 31, 32, 33, 34, 35, 36, 37, 38, 39, 40, 41, 42, 43, 44, 45, 46, 47, 48, 49, 50, 51, 52, 53, 54, 55, 56, 57, 58, 59, 60, 61, 62, 63, 64, 65, 66, 67, 68, 69, 70, 71, 72, 73, 74] (by decide +kernel) (by decide +kernel)
set_option maxRecDepth 20000 in
theorem gX12_invite_X12_inviteNow : GoodIn wsX12_invite (wsV RX12 175 RX12 yX12_inviteNow wsX12_inviteNow) := goodIn_app (goodIn_of _ (by decide +kernel)) ggX12_invite_X12_inviteNow
set_option maxRecDepth 20000 in
theorem ggX12_writtenAll_X12_isWrittenNow : GoodIn wsX12_writtenAll wsX12_isWrittenNow := goodIn_r _ [6, 7, 8, 9, 5, 10, 1, 11, 12, 13, 14, 15, 16, 17, 18, 19, 20, 21, 22, 23, 24, 25, 26, 27, 28, 29, 30, 31, 32, 33, 34, 35, 36, 37, 38, 39, 40, 41, 42, 43, 44, 45, 46, 47, 48, 49, 50, 51, 52, 53, 54, 55, 56, 57, 58, 59, 60] (by decide +kernel) (by decide +kernel)
set_option maxRecDepth 20000 in
theorem gX12_writtenAll_X12_isWrittenNow : GoodIn wsX12_writtenAll (wsV RX12 115 RX12 yX12_isWrittenNow wsX12_isWrittenNow) := goodIn_app (goodIn_of _ (by decide +kernel)) ggX12_writtenAll_X12_isWrittenNow
set_option maxRecDepth 20000 in
theorem ggX12_yearsNow_X12_draw : GoodIn wsX12_yearsNow wsX12_draw := goodIn_r _ [9, 10, 4, 11, 12, 13, 44, 45, 46, 47, 48, 49, 50, 51, 52, 53, 54, 55, 56, 57, 58, 59, 60, 61, 62, 63, 64, 65, 66, 67, 68, 69, 70, 71, 72, 73, 74] (by decide +kernel) (by decide +kernel)
set_option maxRecDepth 20000 in
theorem gX12_yearsNow_X12_draw : GoodIn wsX12_yearsNow (wsV RX12 190 RX12 yX12_draw wsX12_draw) := goodIn_app (goodIn_of _ (by decide +kernel)) ggX12_yearsNow_X12_draw
set_option maxRecDepth 20000 in
theorem ggX12_yearsNow_X12_writtenAll : GoodIn wsX12_yearsNow wsX12_writtenAll := goodIn_r _ [17, 1, 18, 19, 20, 8, 21, 22, 23, 24, 25, 3, 26, 27, 28, 29, 30, 31, 32, 33, 34, 35, 36, 37, 38, 39, 40, 41, 42, 43, 44, 45, 46, 47, 48, 49, 50, 51, 52, 53, 54, 55, 56, 57, 58, 59, 60, 61, 62, 63, 64, 65, 66, 67, 68, 69, 70, 71, 72, 73, 74] (by decide +kernel) (by decide +kernel)
set_option maxRecDepth 20000 in
theorem gX12_yearsNow_X12_writtenAll : GoodIn wsX12_yearsNow (wsV RX12 193 RX12 yX12_writtenAll wsX12_writtenAll) := goodIn_app (goodIn_of _ (by decide +kernel)) ggX12_yearsNow_X12_writtenAll
set_option maxRecDepth 20000 in
theorem ggX12_years_X12_within : GoodIn wsX12_years wsX12_within := goodIn_r _ [5] (by decide +kernel) (by decide +kernel)
set_option maxRecDepth 20000 in
theorem gX12_years_X12_within : GoodIn wsX12_years (va_wsS RX12 59 yX12_within wsX12_within) := goodIn_app (goodIn_of _ (by decide +kernel)) ggX12_years_X12_within
set_option maxRecDepth 20000 in
theorem ggX12_years_X12_yearsNow : GoodIn wsX12_years wsX12_yearsNow := goodIn_r _ [9, 1, 10, 11, 12, 13, 14, 15, 4, 16, 17, 18, 19, 20, 21, 22, 23, 24, 25, 26, 27, 28, 29, 30, 31, 32, 33, 34, 35, 36, 37, 38, 39, 40, 41, 42, 43, 44, 45, 46, 47, 48, 49, 50, 51, 52, 53, 54, 55, 56, 57, 58, 59, 60, 61, 62, 63, 64, 65, 66, 67, 68, 69, 70, 71, 72, 73, 74, 75, 76, 77, 78, 79, 80, 81] (by decide +kernel) (by decide +kernel)
set_option maxRecDepth 20000 in
theorem gX12_years_X12_yearsNow : GoodIn wsX12_years (wsV RX12 196 RX12 yX12_yearsNow wsX12_yearsNow) := goodIn_app (goodIn_of _ (by decide +kernel)) ggX12_years_X12_yearsNow
set_option maxRecDepth 20000 in
theorem ggX12_pairs_X12_size : GoodIn wsX12_pairs wsX12_size := goodIn_r _ [6] (by decide +kernel) (by decide +kernel)
set_option maxRecDepth 20000 in
theorem gX12_pairs_X12_size : GoodIn wsX12_pairs (va_wsS RX12 216 yX12_size wsX12_size) := goodIn_app (goodIn_of _ (by decide +kernel)) ggX12_pairs_X12_size
set_option maxRecDepth 20000 in
theorem ggX12_howMany_X12_writtenAll : GoodIn wsX12_howMany wsX12_writtenAll := goodIn_r _ [13, 1, 14, 15, 16, 12, 17, 18, 19, 20, 21, 22, 23, 24, 25, 26, 27, 28, 29, 30, 31, 32, 33, 34, 35, 36, 37, 38, 39, 40, 48, 49, 50, 51, 52, 53, 54, 55, 56, 57, 58, 59, 60, 61, 62, 63, 64, 65, 66, 67, 68, 69, 70, 71, 72, 73, 74, 75, 76, 77, 78] (by decide +kernel) (by decide +kernel)
set_option maxRecDepth 20000 in
theorem gX12_howMany_X12_writtenAll : GoodIn wsX12_howMany (wsV RX12 193 RX12 yX12_writtenAll wsX12_writtenAll) := goodIn_app (goodIn_of _ (by decide +kernel)) ggX12_howMany_X12_writtenAll
set_option maxRecDepth 20000 in
theorem ggX12_howMany_X12_pairs : GoodIn wsX12_howMany wsX12_pairs := goodIn_r _ [44, 1, 37, 45, 46, 12, 47, 48, 49, 50, 51, 52, 53, 54, 55, 56, 57, 58, 59, 60, 61, 62, 63, 64, 65, 66, 67, 68, 69, 70, 71, 72, 73, 74, 75, 76, 77, 78] (by decide +kernel) (by decide +kernel)
set_option maxRecDepth 20000 in
theorem gX12_howMany_X12_pairs : GoodIn wsX12_howMany (wsV RX12 219 RX12 yX12_pairs wsX12_pairs) := goodIn_app (goodIn_of _ (by decide +kernel)) ggX12_howMany_X12_pairs
set_option maxRecDepth 20000 in
theorem ggX12_count_X12_howMany : GoodIn wsX12_count wsX12_howMany := goodIn_r _ [5, 6, 7, 8, 9, 10, 11, 12, 13, 14, 15, 16, 4, 17, 18, 19, 20, 21, 22, 23, 24, 25, 26, 27, 28, 29, 30, 31, 32, 33, 34, 35, 36, 37, 38, 39, 40, 41, 42, 43, 44, 45, 46, 47, 48, 49, 50, 51, 52, 53, 54, 55, 56, 57, 58, 59, 60, 61, 62, 63, 64, 65, 66, 67, 68, 69, 70, 71, 72, 73, 74, 75, 76, 77, 78, 79, 80, 81, 82] (by decide +kernel) (by decide +kernel)
set_option maxRecDepth 20000 in
theorem gX12_count_X12_howMany : GoodIn wsX12_count (wsV RX12 222 RX12 yX12_howMany wsX12_howMany) := goodIn_app (goodIn_of _ (by decide +kernel)) ggX12_count_X12_howMany
set_option maxRecDepth 20000 in
theorem ggX12_digest_X12_oneNow : GoodIn wsX12_digest wsX12_oneNow := goodIn_r _ [10, 11, 12, 13, 14, 15, 16, 17, 9, 18, 19, 20, 21, 22, 3, 23, 24, 25, 26, 27, 28, 29, 30, 31, 32, 33, 34, 35, 36, 37, 38, 39, 40, 41, 42, 43, 44, 45, 92, 93, 94, 95, 96, 97, 98, 99, 100, 101, 102, 103, 104, 105, 106, 107, 108, 109, 110, 111, 112, 113, 114, 115, 116, 117, 118, 119, 120, 121, 122] (by decide +kernel) (by decide +kernel)
set_option maxRecDepth 20000 in
theorem gX12_digest_X12_oneNow : GoodIn wsX12_digest (wsV RX12 127 RX12 yX12_oneNow wsX12_oneNow) := goodIn_app (goodIn_of _ (by decide +kernel)) ggX12_digest_X12_oneNow
set_option maxRecDepth 20000 in
theorem ggX12_digest_X12_mix : GoodIn wsX12_digest wsX12_mix := goodIn_r _ [49, 50, 2, 92, 93, 94, 95, 96, 97, 98, 99, 100, 101, 102, 103, 104, 105, 106, 107, 108, 109, 110, 111, 112, 113, 114, 115, 116, 117, 118, 119, 120, 121, 122] (by decide +kernel) (by decide +kernel)
set_option maxRecDepth 20000 in
theorem gX12_digest_X12_mix : GoodIn wsX12_digest (wsV RX12 232 RX12 yX12_mix wsX12_mix) := goodIn_app (goodIn_of _ (by decide +kernel)) ggX12_digest_X12_mix
set_option maxRecDepth 20000 in
theorem ggX12_digest_X12_holdersNow : GoodIn wsX12_digest wsX12_holdersNow := goodIn_r _ [54, 3, 55, 56, 57, 9, 58, 59, 60, 61, 62, 27, 28, 29, 30, 11, 31, 32, 33, 34, 14, 35, 36, 37, 92, 93, 94, 95, 96, 97, 98, 99, 100, 101, 102, 103, 104, 105, 106, 107, 108, 109, 110, 111, 112, 113, 114, 115, 116, 117, 118, 119, 120, 121, 122] (by decide +kernel) (by decide +kernel)
set_option maxRecDepth 20000 in
theorem gX12_digest_X12_holdersNow : GoodIn wsX12_digest (wsV RX12 169 RX12 yX12_holdersNow wsX12_holdersNow) := goodIn_app (goodIn_of _ (by decide +kernel)) ggX12_digest_X12_holdersNow
set_option maxRecDepth 20000 in
theorem ggX12_digest_X12_inviteNow : GoodIn wsX12_digest wsX12_inviteNow := goodIn_r _ [66, 67, 3, 51, 52, 53, 9, 54, 55, 56, 57, 58, 59, 60, 61, 62, 27, 28, 29, 30, 11, 31, 32, 33, 34, 14, 35, 36, 37, 68, 69, 70, 71, 92, 93, 94, 95, 96, 97, 98, 99, 100, 101, 102, 103, 104, 105, 106, 107, 108, 109, 110, 111, 112, 113, 114, 115, 116, 117, 118, 119, 120, 121, 122] (by decide +kernel) (by decide +kernel)
set_option maxRecDepth 20000 in
theorem gX12_digest_X12_inviteNow : GoodIn wsX12_digest (wsV RX12 175 RX12 yX12_inviteNow wsX12_inviteNow) := goodIn_app (goodIn_of _ (by decide +kernel)) ggX12_digest_X12_inviteNow
set_option maxRecDepth 20000 in
theorem ggX12_digest_X12_howMany : GoodIn wsX12_digest wsX12_howMany := goodIn_r _ [75, 3, 76, 77, 59, 4, 78, 79, 80, 81, 82, 83, 9, 84, 15, 16, 17, 18, 19, 20, 21, 22, 13, 23, 24, 25, 26, 12, 27, 28, 29, 30, 11, 31, 32, 33, 34, 14, 35, 36, 37, 85, 86, 87, 88, 89, 90, 91, 92, 93, 94, 95, 96, 97, 98, 99, 100, 101, 102, 103, 104, 105, 106, 107, 108, 109, 110, 111, 112, 113, 114, 115, 116, 117, 118, 119, 120, 121, 122] (by decide +kernel) (by decide +kernel)
set_option maxRecDepth 20000 in
theorem gX12_digest_X12_howMany : GoodIn wsX12_digest (wsV RX12 222 RX12 yX12_howMany wsX12_howMany) := goodIn_app (goodIn_of _ (by decide +kernel)) ggX12_digest_X12_howMany
set_option maxRecDepth 20000 in
theorem ggJ0_length_8abf5_J0_coder_7d493 : GoodIn wsJ0_length_8abf5 wsJ0_coder_7d493 := goodIn_r _ [6, 7, 8] (by decide +kernel) (by decide +kernel)
set_option maxRecDepth 20000 in
theorem gJ0_length_8abf5_J0_coder_7d493 : GoodIn wsJ0_length_8abf5 (wsV RJ0 335 RJ0 yJ0_coder_7d493 wsJ0_coder_7d493) := goodIn_app (goodIn_of _ (by decide +kernel)) ggJ0_length_8abf5_J0_coder_7d493
set_option maxRecDepth 20000 in
theorem ggJ0_indexOf_0f7a4_J0_indexOf_7cf53 : GoodIn wsJ0_indexOf_0f7a4 wsJ0_indexOf_7cf53 := goodIn_r _ [5, 6, 7, 8, 9, 4, 10, 11, 12, 13, 14, 15, 16, 17, 18, 19, 20, 21, 22, 23, 24, 25, 26, 27, 28, 29, 30, 31, 32, 33, 34, 35, 36, 37, 38, 39, 40, 41, 42, 43, 44, 45, 46, 47, 48, 49, 50, 51, 52, 53, 54, 55, 56, 57, 58, 59, 60, 61, 62, 63, 64, 65, 66, 67, 68, 69, 70, 71, 72, 73, 74, 75, 76, 77, 78, 79, 80, 81, 82, 83, 84, 85] (by decide +kernel) (by decide +kernel)
set_option maxRecDepth 20000 in
theorem gJ0_indexOf_0f7a4_J0_indexOf_7cf53 : GoodIn wsJ0_indexOf_0f7a4 (wsV RJ0 633 RJ0 yJ0_indexOf_7cf53 wsJ0_indexOf_7cf53) := goodIn_app (goodIn_of _ (by decide +kernel)) ggJ0_indexOf_0f7a4_J0_indexOf_7cf53
set_option maxRecDepth 20000 in
theorem ggJ0_indexOf_7cf53_J0_isLatin1_aae02 : GoodIn wsJ0_indexOf_7cf53 wsJ0_isLatin1_aae02 := goodIn_r _ [6, 7, 8] (by decide +kernel) (by decide +kernel)
set_option maxRecDepth 20000 in
theorem gJ0_indexOf_7cf53_J0_isLatin1_aae02 : GoodIn wsJ0_indexOf_7cf53 (wsV RJ0 492 RJ0 yJ0_isLatin1_aae02 wsJ0_isLatin1_aae02) := goodIn_app (goodIn_of _ (by decide +kernel)) ggJ0_indexOf_7cf53_J0_isLatin1_aae02
set_option maxRecDepth 20000 in
theorem ggJ0_indexOf_7cf53_J0_length_8abf5 : GoodIn wsJ0_indexOf_7cf53 wsJ0_length_8abf5 := goodIn_r _ [12, 1, 13, 14, 15, 5, 16, 7, 8] (by decide +kernel) (by decide +kernel)
set_option maxRecDepth 20000 in
theorem gJ0_indexOf_7cf53_J0_length_8abf5 : GoodIn wsJ0_indexOf_7cf53 (wsV RJ0 505 RJ0 yJ0_length_8abf5 wsJ0_length_8abf5) := goodIn_app (goodIn_of _ (by decide +kernel)) ggJ0_indexOf_7cf53_J0_length_8abf5
set_option maxRecDepth 20000 in
theorem ggJ0_indexOf_7cf53_J1_indexOf_4cfef : GoodIn wsJ0_indexOf_7cf53 wsJ1_indexOf_4cfef := goodIn_r _ [20, 21, 22, 23, 24, 25, 26, 27, 28, 29, 19, 30, 31, 32, 33] (by decide +kernel) (by decide +kernel)
set_option maxRecDepth 20000 in
theorem gJ0_indexOf_7cf53_J1_indexOf_4cfef : GoodIn wsJ0_indexOf_7cf53 (va_wsS RJ0 637 yJ1_indexOf_4cfef wsJ1_indexOf_4cfef) := goodIn_app (goodIn_of _ (by decide +kernel)) ggJ0_indexOf_7cf53_J1_indexOf_4cfef
set_option maxRecDepth 20000 in
theorem ggJ0_indexOf_7cf53_J2_indexOf_4cfef : GoodIn wsJ0_indexOf_7cf53 wsJ2_indexOf_4cfef := goodIn_r _ [37, 38, 22, 23, 24, 39, 26, 27, 40, 41, 42, 36, 43, 44, 45, 46, 47, 48, 49, 50, 51, 5, 52, 53, 54, 55, 56, 57, 58, 59, 60, 61, 62, 63, 64, 65, 66, 67, 68, 69, 70, 71, 72, 73, 74, 75, 76, 77, 78, 79, 80, 81] (by decide +kernel) (by decide +kernel)
set_option maxRecDepth 20000 in
theorem gJ0_indexOf_7cf53_J2_indexOf_4cfef : GoodIn wsJ0_indexOf_7cf53 (va_wsS RJ0 640 yJ2_indexOf_4cfef wsJ2_indexOf_4cfef) := goodIn_app (goodIn_of _ (by decide +kernel)) ggJ0_indexOf_7cf53_J2_indexOf_4cfef
set_option maxRecDepth 20000 in
theorem ggJ0_checkBoundsBeginEnd_23922_J3_checkFromToIndex_8c36e : GoodIn wsJ0_checkBoundsBeginEnd_23922 wsJ3_checkFromToIndex_8c36e := goodIn_r _ [5] (by decide +kernel) (by decide +kernel)
set_option maxRecDepth 20000 in
theorem gJ0_checkBoundsBeginEnd_23922_J3_checkFromToIndex_8c36e : GoodIn wsJ0_checkBoundsBeginEnd_23922 (va_wsS RJ0 1062 yJ3_checkFromToIndex_8c36e wsJ3_checkFromToIndex_8c36e) := goodIn_app (goodIn_of _ (by decide +kernel)) ggJ0_checkBoundsBeginEnd_23922_J3_checkFromToIndex_8c36e
set_option maxRecDepth 20000 in
theorem ggJ1_indexOf_4cfef_J1_canEncode_9a6ad : GoodIn wsJ1_indexOf_4cfef wsJ1_canEncode_9a6ad := goodIn_r _ [11] (by decide +kernel) (by decide +kernel)
set_option maxRecDepth 20000 in
theorem gJ1_indexOf_4cfef_J1_canEncode_9a6ad : GoodIn wsJ1_indexOf_4cfef (va_wsS RJ1 88 yJ1_canEncode_9a6ad wsJ1_canEncode_9a6ad) := goodIn_app (goodIn_of _ (by decide +kernel)) ggJ1_indexOf_4cfef_J1_canEncode_9a6ad
set_option maxRecDepth 20000 in
theorem ggJ1_indexOf_4cfef_J1_indexOfChar_4cfef : GoodIn wsJ1_indexOf_4cfef wsJ1_indexOfChar_4cfef := goodIn_r _ [14] (by decide +kernel) (by decide +kernel)
set_option maxRecDepth 20000 in
theorem gJ1_indexOf_4cfef_J1_indexOfChar_4cfef : GoodIn wsJ1_indexOf_4cfef (va_wsS RJ1 95 yJ1_indexOfChar_4cfef wsJ1_indexOfChar_4cfef) := goodIn_app (goodIn_of _ (by decide +kernel)) ggJ1_indexOf_4cfef_J1_indexOfChar_4cfef
set_option maxRecDepth 20000 in
theorem ggJ2_getChar_3b067_J2_length_9d52b : GoodIn wsJ2_getChar_3b067 wsJ2_length_9d52b := goodIn_r _ [7] (by decide +kernel) (by decide +kernel)
set_option maxRecDepth 20000 in
theorem gJ2_getChar_3b067_J2_length_9d52b : GoodIn wsJ2_getChar_3b067 (va_wsS RJ2 48 yJ2_length_9d52b wsJ2_length_9d52b) := goodIn_app (goodIn_of _ (by decide +kernel)) ggJ2_getChar_3b067_J2_length_9d52b
set_option maxRecDepth 20000 in
theorem ggJ2_indexOf_4cfef_J2_indexOfChar_4cfef : GoodIn wsJ2_indexOf_4cfef wsJ2_indexOfChar_4cfef := goodIn_r _ [12, 13, 14, 11, 15, 16, 17, 18, 19, 20, 21, 22, 23, 24, 25, 26, 27, 28, 29, 30, 31, 32, 33, 34, 35, 36] (by decide +kernel) (by decide +kernel)
set_option maxRecDepth 20000 in
theorem gJ2_indexOf_4cfef_J2_indexOfChar_4cfef : GoodIn wsJ2_indexOf_4cfef (va_wsS RJ2 228 yJ2_indexOfChar_4cfef wsJ2_indexOfChar_4cfef) := goodIn_app (goodIn_of _ (by decide +kernel)) ggJ2_indexOf_4cfef_J2_indexOfChar_4cfef
set_option maxRecDepth 20000 in
theorem ggJ2_indexOf_4cfef_J2_indexOfSupplementary_4cfef : GoodIn wsJ2_indexOf_4cfef wsJ2_indexOfSupplementary_4cfef := goodIn_r _ [39, 40, 41, 42, 43, 44, 45, 46, 47, 48, 49, 50, 51, 13, 14, 11, 15, 16, 17, 18, 19, 20, 21, 22, 23, 24, 25, 26, 27, 31, 32, 33, 34, 35, 36] (by decide +kernel) (by decide +kernel)
set_option maxRecDepth 20000 in
theorem gJ2_indexOf_4cfef_J2_indexOfSupplementary_4cfef : GoodIn wsJ2_indexOf_4cfef (va_wsS RJ2 232 yJ2_indexOfSupplementary_4cfef wsJ2_indexOfSupplementary_4cfef) := goodIn_app (goodIn_of _ (by decide +kernel)) ggJ2_indexOf_4cfef_J2_indexOfSupplementary_4cfef
set_option maxRecDepth 20000 in
theorem ggJ2_indexOfChar_4cfef_J2_checkBoundsBeginEnd_d044e : GoodIn wsJ2_indexOfChar_4cfef wsJ2_checkBoundsBeginEnd_d044e := goodIn_r _ [4, 5, 6, 3, 7, 8, 9, 10, 11, 12, 13, 14, 15, 16] (by decide +kernel) (by decide +kernel)
set_option maxRecDepth 20000 in
theorem gJ2_indexOfChar_4cfef_J2_checkBoundsBeginEnd_d044e : GoodIn wsJ2_indexOfChar_4cfef (va_wsS RJ2 96 yJ2_checkBoundsBeginEnd_d044e wsJ2_checkBoundsBeginEnd_d044e) := goodIn_app (goodIn_of _ (by decide +kernel)) ggJ2_indexOfChar_4cfef_J2_checkBoundsBeginEnd_d044e
set_option maxRecDepth 20000 in
theorem ggJ2_indexOfChar_4cfef_J2_indexOfCharUnsafe_4cfef : GoodIn wsJ2_indexOfChar_4cfef wsJ2_indexOfCharUnsafe_4cfef := goodIn_r _ [19, 20, 21, 3, 22, 23, 24, 25, 5, 6, 7] (by decide +kernel) (by decide +kernel)
set_option maxRecDepth 20000 in
theorem gJ2_indexOfChar_4cfef_J2_indexOfCharUnsafe_4cfef : GoodIn wsJ2_indexOfChar_4cfef (va_wsS RJ2 244 yJ2_indexOfCharUnsafe_4cfef wsJ2_indexOfCharUnsafe_4cfef) := goodIn_app (goodIn_of _ (by decide +kernel)) ggJ2_indexOfChar_4cfef_J2_indexOfCharUnsafe_4cfef
set_option maxRecDepth 20000 in
theorem ggJ2_indexOfCharUnsafe_4cfef_J2_getChar_3b067 : GoodIn wsJ2_indexOfCharUnsafe_4cfef wsJ2_getChar_3b067 := goodIn_r _ [4, 5, 6, 7, 8, 9, 3, 10] (by decide +kernel) (by decide +kernel)
set_option maxRecDepth 20000 in
theorem gJ2_indexOfCharUnsafe_4cfef_J2_getChar_3b067 : GoodIn wsJ2_indexOfCharUnsafe_4cfef (va_wsS RJ2 71 yJ2_getChar_3b067 wsJ2_getChar_3b067) := goodIn_app (goodIn_of _ (by decide +kernel)) ggJ2_indexOfCharUnsafe_4cfef_J2_getChar_3b067
set_option maxRecDepth 20000 in
theorem ggJ2_indexOfSupplementary_4cfef_J11_isValidCodePoint_9a6ad : GoodIn wsJ2_indexOfSupplementary_4cfef wsJ11_isValidCodePoint_9a6ad := goodIn_r _ [4] (by decide +kernel) (by decide +kernel)
set_option maxRecDepth 20000 in
theorem gJ2_indexOfSupplementary_4cfef_J11_isValidCodePoint_9a6ad : GoodIn wsJ2_indexOfSupplementary_4cfef (va_wsS RJ2 164 yJ11_isValidCodePoint_9a6ad wsJ11_isValidCodePoint_9a6ad) := goodIn_app (goodIn_of _ (by decide +kernel)) ggJ2_indexOfSupplementary_4cfef_J11_isValidCodePoint_9a6ad
set_option maxRecDepth 20000 in
theorem ggJ2_indexOfSupplementary_4cfef_J11_highSurrogate_5068e : GoodIn wsJ2_indexOfSupplementary_4cfef wsJ11_highSurrogate_5068e := goodIn_r _ [7, 8] (by decide +kernel) (by decide +kernel)
set_option maxRecDepth 20000 in
theorem gJ2_indexOfSupplementary_4cfef_J11_highSurrogate_5068e : GoodIn wsJ2_indexOfSupplementary_4cfef (va_wsS RJ2 157 yJ11_highSurrogate_5068e wsJ11_highSurrogate_5068e) := goodIn_app (goodIn_of _ (by decide +kernel)) ggJ2_indexOfSupplementary_4cfef_J11_highSurrogate_5068e
set_option maxRecDepth 20000 in
theorem ggJ2_indexOfSupplementary_4cfef_J11_lowSurrogate_5068e : GoodIn wsJ2_indexOfSupplementary_4cfef wsJ11_lowSurrogate_5068e := goodIn_r _ [11, 12] (by decide +kernel) (by decide +kernel)
set_option maxRecDepth 20000 in
theorem gJ2_indexOfSupplementary_4cfef_J11_lowSurrogate_5068e : GoodIn wsJ2_indexOfSupplementary_4cfef (va_wsS RJ2 161 yJ11_lowSurrogate_5068e wsJ11_lowSurrogate_5068e) := goodIn_app (goodIn_of _ (by decide +kernel)) ggJ2_indexOfSupplementary_4cfef_J11_lowSurrogate_5068e
set_option maxRecDepth 20000 in
theorem ggJ2_indexOfSupplementary_4cfef_J2_checkBoundsBeginEnd_d044e : GoodIn wsJ2_indexOfSupplementary_4cfef wsJ2_checkBoundsBeginEnd_d044e := goodIn_r _ [16, 17, 18, 15, 19, 20, 21, 22, 23, 24, 25, 26, 27, 28] (by decide +kernel) (by decide +kernel)
set_option maxRecDepth 20000 in
theorem gJ2_indexOfSupplementary_4cfef_J2_checkBoundsBeginEnd_d044e : GoodIn wsJ2_indexOfSupplementary_4cfef (va_wsS RJ2 96 yJ2_checkBoundsBeginEnd_d044e wsJ2_checkBoundsBeginEnd_d044e) := goodIn_app (goodIn_of _ (by decide +kernel)) ggJ2_indexOfSupplementary_4cfef_J2_checkBoundsBeginEnd_d044e
set_option maxRecDepth 20000 in
theorem ggJ2_indexOfSupplementary_4cfef_J2_getChar_3b067 : GoodIn wsJ2_indexOfSupplementary_4cfef wsJ2_getChar_3b067 := goodIn_r _ [31, 32, 33, 34, 17, 18, 15, 19] (by decide +kernel) (by decide +kernel)
set_option maxRecDepth 20000 in
theorem gJ2_indexOfSupplementary_4cfef_J2_getChar_3b067 : GoodIn wsJ2_indexOfSupplementary_4cfef (va_wsS RJ2 71 yJ2_getChar_3b067 wsJ2_getChar_3b067) := goodIn_app (goodIn_of _ (by decide +kernel)) ggJ2_indexOfSupplementary_4cfef_J2_getChar_3b067
set_option maxRecDepth 20000 in
theorem ggJ2_checkBoundsBeginEnd_d044e_J2_length_9d52b : GoodIn wsJ2_checkBoundsBeginEnd_d044e wsJ2_length_9d52b := goodIn_r _ [4] (by decide +kernel) (by decide +kernel)
set_option maxRecDepth 20000 in
theorem gJ2_checkBoundsBeginEnd_d044e_J2_length_9d52b : GoodIn wsJ2_checkBoundsBeginEnd_d044e (va_wsS RJ2 48 yJ2_length_9d52b wsJ2_length_9d52b) := goodIn_app (goodIn_of _ (by decide +kernel)) ggJ2_checkBoundsBeginEnd_d044e_J2_length_9d52b
set_option maxRecDepth 20000 in
theorem ggJ2_checkBoundsBeginEnd_d044e_J0_checkBoundsBeginEnd_23922 : GoodIn wsJ2_checkBoundsBeginEnd_d044e wsJ0_checkBoundsBeginEnd_23922 := goodIn_r _ [8, 9, 10, 11, 12, 13] (by decide +kernel) (by decide +kernel)
set_option maxRecDepth 20000 in
theorem gJ2_checkBoundsBeginEnd_d044e_J0_checkBoundsBeginEnd_23922 : GoodIn wsJ2_checkBoundsBeginEnd_d044e (va_wsS RJ2 241 yJ0_checkBoundsBeginEnd_23922 wsJ0_checkBoundsBeginEnd_23922) := goodIn_app (goodIn_of _ (by decide +kernel)) ggJ2_checkBoundsBeginEnd_d044e_J0_checkBoundsBeginEnd_23922
set_option maxRecDepth 20000 in
theorem ggL_law_X11_init : GoodIn wsL_law wsX11_init := goodIn_r _ [8, 9, 10, 11, 12, 13, 14, 15, 16, 17, 18, 19, 20, 21, 22, 23, 24, 25, 26, 27, 28, 29, 30, 31, 32, 33, 34, 35, 36, 37, 38, 39, 40, 41, 42, 43, 44, 45, 46, 47, 48, 49, 50, 51, 52, 53, 54, 55, 56, 57, 58, 59, 60, 61, 62, 63, 64, 65, 66, 67, 68, 69, 70, 71, 72, 73, 74, 75, 76, 77, 78, 79, 80, 81, 82, 83, 84, 85, 86, 87, 88, 89, 90, 91, 92, 93, 94, 95, 96, 97, 98, 99, 100, 101, 102, 103, 104, 105, 858, 859, 817, 818, 819, 820, 821, 822, 823, 824, 825, 826, 860, 861, 862, 863, 864, 865, 866, 867, 868, 869, 870, 871, 872, 873, 874, 875, 876, 877, 878, 879, 880, 881, 882, 883, 884, 885, 886, 887, 888, 889] (by decide +kernel) (by decide +kernel)
set_option maxRecDepth 20000 in
theorem gL_law_X11_init : GoodIn wsL_law (wsX11_init) := ggL_law_X11_init
set_option maxRecDepth 20000 in
theorem ggL_law_X12_init : GoodIn wsL_law wsX12_init := goodIn_r _ [108, 109, 10, 11, 39, 110, 111, 112, 113, 114, 115, 116, 117, 118, 119, 120, 121, 122, 123, 124, 125, 126, 827, 828, 829, 830, 831, 832, 833, 834, 835, 836, 837, 838, 839, 840, 841, 842, 843, 844, 845, 846, 847, 848, 849, 850, 851, 852, 853, 854, 855, 856, 857] (by decide +kernel) (by decide +kernel)
set_option maxRecDepth 20000 in
theorem gL_law_X12_init : GoodIn wsL_law (wsX12_init) := ggL_law_X12_init
set_option maxRecDepth 20000 in
theorem ggL_law_X11_letter : GoodIn wsL_law wsX11_letter := goodIn_r _ [130, 15, 131, 132, 133, 134, 14, 135, 136, 40, 137, 2, 138, 817, 818, 819, 820, 821, 822, 823, 824, 825, 826, 858, 859] (by decide +kernel) (by decide +kernel)
set_option maxRecDepth 20000 in
theorem gL_law_X11_letter : GoodIn wsL_law (wsV RL 13 RX11 yX11_letter wsX11_letter) := goodIn_app (goodIn_of _ (by decide +kernel)) ggL_law_X11_letter
set_option maxRecDepth 20000 in
theorem ggL_law_X12_letter : GoodIn wsL_law wsX12_letter := goodIn_r _ [142, 143, 118, 144, 145, 5, 146, 827, 828, 829, 830, 831, 832, 833, 834, 835, 836, 837, 838, 839, 840, 841, 842, 843, 844, 845, 846, 847, 848, 849, 850, 851, 852, 853, 854, 855, 856, 857] (by decide +kernel) (by decide +kernel)
set_option maxRecDepth 20000 in
theorem gL_law_X12_letter : GoodIn wsL_law (wsV RL 17 RX12 yX12_letter wsX12_letter) := goodIn_app (goodIn_of _ (by decide +kernel)) ggL_law_X12_letter
set_option maxRecDepth 20000 in
theorem ggL_law_X11_blank : GoodIn wsL_law wsX11_blank := goodIn_r _ [150, 15, 131, 817, 818, 819, 820, 821, 822, 823, 824, 825, 826, 858, 859] (by decide +kernel) (by decide +kernel)
set_option maxRecDepth 20000 in
theorem gL_law_X11_blank : GoodIn wsL_law (wsV RL 18 RX11 yX11_blank wsX11_blank) := goodIn_app (goodIn_of _ (by decide +kernel)) ggL_law_X11_blank
set_option maxRecDepth 20000 in
theorem ggL_law_X12_blank : GoodIn wsL_law wsX12_blank := goodIn_r _ [154, 143, 827, 828, 829, 830, 831, 832, 833, 834, 835, 836, 837, 838, 839, 840, 841, 842, 843, 844, 845, 846, 847, 848, 849, 850, 851, 852, 853, 854, 855, 856, 857] (by decide +kernel) (by decide +kernel)
set_option maxRecDepth 20000 in
theorem gL_law_X12_blank : GoodIn wsL_law (wsV RL 22 RX12 yX12_blank wsX12_blank) := goodIn_app (goodIn_of _ (by decide +kernel)) ggL_law_X12_blank
set_option maxRecDepth 20000 in
theorem ggL_law_X11_fault : GoodIn wsL_law wsX11_fault := goodIn_r _ [158, 15, 159, 160, 161, 14, 162, 136, 163, 164, 165, 166, 40, 167, 168, 169, 170, 171, 2, 172, 173, 174, 175, 176, 177, 178, 179, 180, 181, 182, 183, 184, 185, 186, 187, 188, 189, 190, 191, 192, 193, 194, 195, 196, 197, 198, 199, 200, 201, 202, 203, 204, 205, 206, 207, 208, 209, 210, 211, 212, 213, 214, 215, 216, 217, 218, 219, 220, 221, 222, 223, 224, 225, 226, 227, 228, 229, 230, 231, 232, 233, 234, 235, 236, 237, 238, 239, 240, 241, 242, 243, 244, 245, 246, 247, 248, 249, 250, 251, 252, 253, 254, 255, 256, 257, 258, 259, 260, 261, 262, 263, 264, 265, 266, 267, 268, 269, 270, 271, 272, 273, 274, 275, 276, 277, 817, 818, 819, 820, 821, 822, 823, 824, 825, 826, 858, 859] (by decide +kernel) (by decide +kernel)
set_option maxRecDepth 20000 in
theorem gL_law_X11_fault : GoodIn wsL_law (wsV RL 23 RX11 yX11_fault wsX11_fault) := goodIn_app (goodIn_of _ (by decide +kernel)) ggL_law_X11_fault
set_option maxRecDepth 20000 in
theorem ggL_law_X12_fault : GoodIn wsL_law wsX12_fault := goodIn_r _ [281, 282, 283, 284, 5, 285, 143, 118, 286, 287, 288, 289, 290, 291, 292, 144, 145, 146, 293, 294, 295, 296, 827, 828, 829, 830, 831, 832, 833, 834, 835, 836, 837, 838, 839, 840, 841, 842, 843, 844, 845, 846, 847, 848, 849, 850, 851, 852, 853, 854, 855, 856, 857] (by decide +kernel) (by decide +kernel)
set_option maxRecDepth 20000 in
theorem gL_law_X12_fault : GoodIn wsL_law (wsV RL 26 RX12 yX12_fault wsX12_fault) := goodIn_app (goodIn_of _ (by decide +kernel)) ggL_law_X12_fault
set_option maxRecDepth 20000 in
theorem ggL_law_X11_town : GoodIn wsL_law wsX11_town := goodIn_r _ [300, 15, 19, 131, 301, 302, 303, 304, 305, 14, 306, 136, 266, 267, 268, 269, 307, 160, 161, 162, 163, 164, 165, 166, 40, 167, 168, 169, 170, 171, 2, 172, 173, 174, 175, 176, 177, 178, 179, 180, 181, 182, 183, 184, 185, 186, 187, 188, 189, 190, 191, 192, 193, 194, 195, 196, 197, 198, 199, 200, 201, 202, 203, 204, 205, 206, 207, 208, 209, 210, 211, 212, 213, 214, 215, 216, 217, 218, 219, 220, 221, 222, 223, 224, 225, 226, 227, 228, 229, 230, 231, 232, 233, 234, 235, 236, 237, 238, 239, 240, 241, 242, 243, 244, 245, 246, 247, 248, 249, 250, 251, 252, 253, 254, 255, 256, 257, 258, 259, 260, 261, 262, 263, 264, 265, 270, 271, 272, 273, 274, 275, 276, 277, 308, 309, 310, 18, 311, 45, 312, 313, 62, 61, 314, 315, 316, 317, 318, 22, 319, 66, 67, 68, 320, 321, 322, 323, 137, 138, 324, 325, 326, 817, 818, 819, 820, 821, 822, 823, 824, 825, 826, 858, 859, 860, 861, 862, 863, 864, 865, 866, 867, 868, 869, 870, 871, 872, 873] (by decide +kernel) (by decide +kernel)
set_option maxRecDepth 20000 in
theorem gL_law_X11_town : GoodIn wsL_law (wsV RL 27 RX11 yX11_town wsX11_town) := goodIn_app (goodIn_of _ (by decide +kernel)) ggL_law_X11_town
set_option maxRecDepth 20000 in
theorem ggL_law_X12_town : GoodIn wsL_law wsX12_town := goodIn_r _ [330, 143, 331, 110, 118, 111, 112, 113, 332, 333, 334, 335, 293, 294, 295, 5, 296, 282, 283, 284, 285, 286, 287, 288, 289, 290, 291, 292, 144, 145, 146, 827, 828, 829, 830, 831, 832, 833, 834, 835, 836, 837, 838, 839, 840, 841, 842, 843, 844, 845, 846, 847, 848, 849, 850, 851, 852, 853, 854, 855, 856, 857] (by decide +kernel) (by decide +kernel)
set_option maxRecDepth 20000 in
theorem gL_law_X12_town : GoodIn wsL_law (wsV RL 30 RX12 yX12_town wsX12_town) := goodIn_app (goodIn_of _ (by decide +kernel)) ggL_law_X12_town
set_option maxRecDepth 20000 in
theorem ggL_law_X11_about : GoodIn wsL_law wsX11_about := goodIn_r _ [339, 19, 340, 341, 342, 18, 343, 313, 344, 345, 346, 2, 347, 348, 349, 350, 351, 352, 353, 354, 355, 356, 357, 358, 359, 360, 361, 62, 362, 363, 171, 172, 364, 365, 366, 367, 368, 369, 370, 371, 372, 373, 374, 375, 376, 377, 45, 314, 315, 378, 379, 380, 381, 382, 383, 384, 385, 386, 387, 54, 388, 389, 390, 391, 51, 392, 393, 394, 395, 48, 396, 397, 57, 398, 399, 400, 60, 401, 402, 403, 404, 405, 406, 407, 408, 409, 410, 817, 818, 819, 820, 821, 822, 823, 824, 825, 826, 860, 861, 862, 863, 864, 865, 866, 867, 868, 869, 870, 871, 872, 873, 887, 886, 885, 888, 889] (by decide +kernel) (by decide +kernel)
set_option maxRecDepth 20000 in
theorem gL_law_X11_about : GoodIn wsL_law (wsV RL 31 RX11 yX11_about wsX11_about) := goodIn_app (goodIn_of _ (by decide +kernel)) ggL_law_X11_about
set_option maxRecDepth 20000 in
theorem ggL_law_X12_about : GoodIn wsL_law wsX12_about := goodIn_r _ [414, 415, 416, 417, 5, 418, 331, 144, 145, 146, 419, 420, 421, 422, 110, 111, 112, 113, 423, 424, 425, 426, 427, 428, 429, 430, 431, 432, 433, 434, 435, 436, 437, 438, 439, 440, 441, 442, 443, 444, 445, 446, 447, 448, 449, 450, 451, 452, 453, 827, 828, 829, 830, 831, 832, 833, 834, 835, 836, 837, 838, 839, 840, 841, 842, 843, 844, 845, 846, 847, 848, 849, 850, 851, 852, 853, 854, 855, 856, 857] (by decide +kernel) (by decide +kernel)
set_option maxRecDepth 20000 in
theorem gL_law_X12_about : GoodIn wsL_law (wsV RL 35 RX12 yX12_about wsX12_about) := goodIn_app (goodIn_of _ (by decide +kernel)) ggL_law_X12_about
set_option maxRecDepth 20000 in
theorem ggL_law_X11_as : GoodIn wsL_law wsX11_as := goodIn_r _ [457, 19, 340, 341, 342, 18, 343, 313, 458, 359, 360, 361, 62, 362, 459, 460, 2, 461, 462, 463, 464, 465, 817, 818, 819, 820, 821, 822, 823, 824, 825, 826, 860, 861, 862, 863] (by decide +kernel) (by decide +kernel)
set_option maxRecDepth 20000 in
theorem gL_law_X11_as : GoodIn wsL_law (wsV RL 36 RX11 yX11_as wsX11_as) := goodIn_app (goodIn_of _ (by decide +kernel)) ggL_law_X11_as
set_option maxRecDepth 20000 in
theorem ggL_law_X12_as : GoodIn wsL_law wsX12_as := goodIn_r _ [469, 110, 415, 416, 417, 5, 418, 331, 144, 145, 146, 827, 828, 829, 830, 831, 832, 833, 834, 835, 836, 837, 838, 839, 840, 841, 842, 843, 844, 845, 846, 847, 848, 849, 850, 851, 852, 853, 854, 855, 856, 857] (by decide +kernel) (by decide +kernel)
set_option maxRecDepth 20000 in
theorem gL_law_X12_as : GoodIn wsL_law (wsV RL 39 RX12 yX12_as wsX12_as) := goodIn_app (goodIn_of _ (by decide +kernel)) ggL_law_X12_as
set_option maxRecDepth 20000 in
theorem ggL_law_X11_go : GoodIn wsL_law wsX11_go := goodIn_r _ [473, 19, 348, 351, 474, 340, 341, 342, 18, 343, 313, 364, 365, 2, 366, 367, 368, 369, 475, 476, 477, 817, 818, 819, 820, 821, 822, 823, 824, 825, 826, 860, 861, 862, 863, 864, 865, 866, 867, 868, 869, 870, 871, 872, 873] (by decide +kernel) (by decide +kernel)
set_option maxRecDepth 20000 in
theorem gL_law_X11_go : GoodIn wsL_law (wsV RL 40 RX11 yX11_go wsX11_go) := goodIn_app (goodIn_of _ (by decide +kernel)) ggL_law_X11_go
set_option maxRecDepth 20000 in
theorem ggL_law_X12_go : GoodIn wsL_law wsX12_go := goodIn_r _ [481, 112, 333, 415, 416, 417, 5, 418, 331, 144, 145, 146, 827, 828, 829, 830, 831, 832, 833, 834, 835, 836, 837, 838, 839, 840, 841, 842, 843, 844, 845, 846, 847, 848, 849, 850, 851, 852, 853, 854, 855, 856, 857] (by decide +kernel) (by decide +kernel)
set_option maxRecDepth 20000 in
theorem gL_law_X12_go : GoodIn wsL_law (wsV RL 43 RX12 yX12_go wsX12_go) := goodIn_app (goodIn_of _ (by decide +kernel)) ggL_law_X12_go
set_option maxRecDepth 20000 in
theorem ggL_law_X11_sell : GoodIn wsL_law wsX11_sell := goodIn_r _ [485, 19, 348, 349, 350, 486, 340, 341, 342, 18, 343, 313, 363, 171, 2, 172, 487, 137, 138, 817, 818, 819, 820, 821, 822, 823, 824, 825, 826, 860, 861, 862, 863, 864, 865, 866, 867, 868, 869, 870, 871, 872, 873] (by decide +kernel) (by decide +kernel)
set_option maxRecDepth 20000 in
theorem gL_law_X11_sell : GoodIn wsL_law (wsV RL 44 RX11 yX11_sell wsX11_sell) := goodIn_app (goodIn_of _ (by decide +kernel)) ggL_law_X11_sell
set_option maxRecDepth 20000 in
theorem ggL_law_X12_sell : GoodIn wsL_law wsX12_sell := goodIn_r _ [491, 111, 334, 415, 416, 417, 5, 418, 331, 144, 145, 146, 827, 828, 829, 830, 831, 832, 833, 834, 835, 836, 837, 838, 839, 840, 841, 842, 843, 844, 845, 846, 847, 848, 849, 850, 851, 852, 853, 854, 855, 856, 857] (by decide +kernel) (by decide +kernel)
set_option maxRecDepth 20000 in
theorem gL_law_X12_sell : GoodIn wsL_law (wsV RL 48 RX12 yX12_sell wsX12_sell) := goodIn_app (goodIn_of _ (by decide +kernel)) ggL_law_X12_sell
set_option maxRecDepth 20000 in
theorem ggL_law_X11_quarrel : GoodIn wsL_law wsX11_quarrel := goodIn_r _ [495, 19, 348, 352, 340, 341, 342, 18, 343, 313, 363, 171, 2, 172, 496, 497, 498, 22, 499, 68, 137, 138, 817, 818, 819, 820, 821, 822, 823, 824, 825, 826, 860, 861, 862, 863, 864, 865, 866, 867, 868, 869, 870, 871, 872, 873] (by decide +kernel) (by decide +kernel)
set_option maxRecDepth 20000 in
theorem gL_law_X11_quarrel : GoodIn wsL_law (wsV RL 49 RX11 yX11_quarrel wsX11_quarrel) := goodIn_app (goodIn_of _ (by decide +kernel)) ggL_law_X11_quarrel
set_option maxRecDepth 20000 in
theorem ggL_law_X12_quarrel : GoodIn wsL_law wsX12_quarrel := goodIn_r _ [503, 113, 415, 416, 417, 5, 418, 331, 144, 145, 146, 504, 505, 506, 827, 828, 829, 830, 831, 832, 833, 834, 835, 836, 837, 838, 839, 840, 841, 842, 843, 844, 845, 846, 847, 848, 849, 850, 851, 852, 853, 854, 855, 856, 857] (by decide +kernel) (by decide +kernel)
set_option maxRecDepth 20000 in
theorem gL_law_X12_quarrel : GoodIn wsL_law (wsV RL 53 RX12 yX12_quarrel wsX12_quarrel) := goodIn_app (goodIn_of _ (by decide +kernel)) ggL_law_X12_quarrel
set_option maxRecDepth 20000 in
theorem ggL_law_X11_written : GoodIn wsL_law wsX11_written := goodIn_r _ [510, 19, 340, 341, 342, 18, 343, 313, 511, 512, 513, 514, 515, 516, 517, 518, 374, 375, 376, 377, 45, 314, 315, 171, 2, 172, 378, 379, 380, 381, 382, 358, 359, 360, 361, 62, 362, 383, 384, 385, 386, 387, 54, 388, 389, 390, 391, 51, 392, 393, 394, 395, 48, 396, 397, 57, 398, 399, 400, 60, 401, 817, 818, 819, 820, 821, 822, 823, 824, 825, 826, 860, 861, 862, 863, 864, 865, 866, 867, 868, 869, 870, 871, 872, 873] (by decide +kernel) (by decide +kernel)
set_option maxRecDepth 20000 in
theorem gL_law_X11_written : GoodIn wsL_law (wsV RL 54 RX11 yX11_written wsX11_written) := goodIn_app (goodIn_of _ (by decide +kernel)) ggL_law_X11_written
set_option maxRecDepth 20000 in
theorem ggL_law_X12_written : GoodIn wsL_law wsX12_written := goodIn_r _ [522, 415, 416, 417, 5, 418, 331, 144, 145, 146, 523, 524, 525, 526, 443, 444, 445, 431, 432, 433, 434, 111, 435, 436, 437, 438, 110, 439, 440, 441, 442, 113, 827, 828, 829, 830, 831, 832, 833, 834, 835, 836, 837, 838, 839, 840, 841, 842, 843, 844, 845, 846, 847, 848, 849, 850, 851, 852, 853, 854, 855, 856, 857] (by decide +kernel) (by decide +kernel)
set_option maxRecDepth 20000 in
theorem gL_law_X12_written : GoodIn wsL_law (wsV RL 57 RX12 yX12_written wsX12_written) := goodIn_app (goodIn_of _ (by decide +kernel)) ggL_law_X12_written
set_option maxRecDepth 20000 in
theorem ggL_law_X11_moves : GoodIn wsL_law wsX11_moves := goodIn_r _ [530, 19, 531, 27, 532, 340, 341, 342, 18, 343, 313, 533, 534, 535, 26, 536, 537, 538, 539, 540, 541, 542, 543, 544, 545, 546, 547, 548, 549, 550, 551, 371, 372, 373, 365, 2, 366, 367, 368, 369, 552, 375, 376, 377, 45, 314, 315, 171, 172, 378, 379, 380, 381, 382, 358, 359, 360, 361, 62, 362, 383, 384, 385, 386, 387, 54, 388, 389, 390, 391, 51, 392, 393, 394, 395, 48, 396, 397, 57, 398, 399, 400, 60, 401, 364, 817, 818, 819, 820, 821, 822, 823, 824, 825, 826, 874, 875, 876, 877, 860, 861, 862, 863, 864, 865, 866, 867, 868, 869, 870, 871, 872, 873] (by decide +kernel) (by decide +kernel)
set_option maxRecDepth 20000 in
theorem gL_law_X11_moves : GoodIn wsL_law (wsV RL 58 RX11 yX11_moves wsX11_moves) := goodIn_app (goodIn_of _ (by decide +kernel)) ggL_law_X11_moves
set_option maxRecDepth 20000 in
theorem ggL_law_X12_moves : GoodIn wsL_law wsX12_moves := goodIn_r _ [556, 557, 415, 416, 417, 5, 418, 331, 144, 145, 146, 558, 559, 560, 561, 562, 563, 564, 565, 566, 112, 567, 568, 569, 570, 571, 572, 573, 574, 431, 432, 433, 434, 111, 435, 436, 437, 438, 110, 439, 440, 441, 442, 113, 443, 444, 445, 827, 828, 829, 830, 831, 832, 833, 834, 835, 836, 837, 838, 839, 840, 841, 842, 843, 844, 845, 846, 847, 848, 849, 850, 851, 852, 853, 854, 855, 856, 857] (by decide +kernel) (by decide +kernel)
set_option maxRecDepth 20000 in
theorem gL_law_X12_moves : GoodIn wsL_law (wsV RL 61 RX12 yX12_moves wsX12_moves) := goodIn_app (goodIn_of _ (by decide +kernel)) ggL_law_X12_moves
set_option maxRecDepth 20000 in
theorem ggL_law_X11_days : GoodIn wsL_law wsX11_days := goodIn_r _ [578, 19, 302, 579, 27, 580, 581, 516, 517, 18, 518, 313, 582, 583, 584, 26, 585, 537, 586, 96, 587, 588, 589, 590, 552, 375, 376, 377, 45, 314, 315, 171, 2, 172, 378, 379, 380, 381, 382, 358, 359, 360, 361, 62, 362, 341, 342, 343, 383, 384, 385, 386, 387, 54, 388, 389, 390, 391, 51, 392, 393, 394, 395, 48, 396, 397, 57, 398, 399, 400, 60, 401, 137, 138, 591, 592, 593, 594, 97, 363, 817, 818, 819, 820, 821, 822, 823, 824, 825, 826, 860, 861, 862, 863, 874, 875, 876, 877, 864, 865, 866, 867, 868, 869, 870, 871, 872, 873] (by decide +kernel) (by decide +kernel)
set_option maxRecDepth 20000 in
theorem gL_law_X11_days : GoodIn wsL_law (wsV RL 62 RX11 yX11_days wsX11_days) := goodIn_app (goodIn_of _ (by decide +kernel)) ggL_law_X11_days
set_option maxRecDepth 20000 in
theorem ggL_law_X12_days : GoodIn wsL_law wsX12_days := goodIn_r _ [598, 331, 599, 523, 524, 525, 5, 526, 144, 145, 146, 600, 601, 602, 603, 604, 605, 606, 607, 119, 443, 444, 445, 431, 432, 433, 434, 111, 435, 436, 437, 438, 110, 439, 440, 441, 442, 113, 608, 609, 610, 611, 827, 828, 829, 830, 831, 832, 833, 834, 835, 836, 837, 838, 839, 840, 841, 842, 843, 844, 845, 846, 847, 848, 849, 850, 851, 852, 853, 854, 855, 856, 857] (by decide +kernel) (by decide +kernel)
set_option maxRecDepth 20000 in
theorem gL_law_X12_days : GoodIn wsL_law (wsV RL 65 RX12 yX12_days wsX12_days) := goodIn_app (goodIn_of _ (by decide +kernel)) ggL_law_X12_days
set_option maxRecDepth 20000 in
theorem ggL_law_X11_hear : GoodIn wsL_law wsX11_hear := goodIn_r _ [615, 19, 348, 616, 340, 341, 342, 18, 343, 313, 511, 512, 513, 514, 515, 516, 517, 518, 617, 618, 619, 22, 620, 69, 321, 70, 71, 137, 2, 138, 817, 818, 819, 820, 821, 822, 823, 824, 825, 826, 860, 861, 862, 863, 864, 865, 866, 867, 868, 869, 870, 871, 872, 873] (by decide +kernel) (by decide +kernel)
set_option maxRecDepth 20000 in
theorem gL_law_X11_hear : GoodIn wsL_law (wsV RL 66 RX11 yX11_hear wsX11_hear) := goodIn_app (goodIn_of _ (by decide +kernel)) ggL_law_X11_hear
set_option maxRecDepth 20000 in
theorem ggL_law_X12_hear : GoodIn wsL_law wsX12_hear := goodIn_r _ [624, 335, 114, 115, 116, 415, 416, 417, 5, 418, 331, 144, 145, 146, 523, 524, 525, 526, 443, 444, 445, 827, 828, 829, 830, 831, 832, 833, 834, 835, 836, 837, 838, 839, 840, 841, 842, 843, 844, 845, 846, 847, 848, 849, 850, 851, 852, 853, 854, 855, 856, 857] (by decide +kernel) (by decide +kernel)
set_option maxRecDepth 20000 in
theorem gL_law_X12_hear : GoodIn wsL_law (wsV RL 69 RX12 yX12_hear wsX12_hear) := goodIn_app (goodIn_of _ (by decide +kernel)) ggL_law_X12_hear
set_option maxRecDepth 20000 in
theorem ggL_law_X11_forget : GoodIn wsL_law wsX11_forget := goodIn_r _ [628, 19, 348, 616, 817, 818, 819, 820, 821, 822, 823, 824, 825, 826, 860, 861, 862, 863, 864, 865, 866, 867, 868, 869, 870, 871, 872, 873] (by decide +kernel) (by decide +kernel)
set_option maxRecDepth 20000 in
theorem gL_law_X11_forget : GoodIn wsL_law (wsV RL 70 RX11 yX11_forget wsX11_forget) := goodIn_app (goodIn_of _ (by decide +kernel)) ggL_law_X11_forget
set_option maxRecDepth 20000 in
theorem ggL_law_X12_forget : GoodIn wsL_law wsX12_forget := goodIn_r _ [632, 335, 827, 828, 829, 830, 831, 832, 833, 834, 835, 836, 837, 838, 839, 840, 841, 842, 843, 844, 845, 846, 847, 848, 849, 850, 851, 852, 853, 854, 855, 856, 857] (by decide +kernel) (by decide +kernel)
set_option maxRecDepth 20000 in
theorem gL_law_X12_forget : GoodIn wsL_law (wsV RL 73 RX12 yX12_forget wsX12_forget) := goodIn_app (goodIn_of _ (by decide +kernel)) ggL_law_X12_forget
set_option maxRecDepth 20000 in
theorem ggL_law_X11_holders : GoodIn wsL_law wsX11_holders := goodIn_r _ [636, 19, 31, 637, 340, 341, 342, 18, 343, 313, 638, 639, 640, 30, 641, 642, 643, 644, 101, 102, 645, 646, 647, 648, 649, 650, 651, 652, 653, 171, 2, 172, 654, 379, 380, 381, 45, 382, 358, 359, 360, 361, 62, 362, 383, 384, 385, 386, 387, 54, 388, 389, 390, 391, 51, 392, 393, 394, 395, 48, 396, 397, 57, 398, 399, 400, 60, 401, 137, 138, 655, 656, 657, 658, 817, 818, 819, 820, 821, 822, 823, 824, 825, 826, 878, 879, 880, 881, 860, 861, 862, 863, 864, 865, 866, 867, 868, 869, 870, 871, 872, 873] (by decide +kernel) (by decide +kernel)
set_option maxRecDepth 20000 in
theorem gL_law_X11_holders : GoodIn wsL_law (wsV RL 74 RX11 yX11_holders wsX11_holders) := goodIn_app (goodIn_of _ (by decide +kernel)) ggL_law_X11_holders
set_option maxRecDepth 20000 in
theorem ggL_law_X12_holders : GoodIn wsL_law wsX12_holders := goodIn_r _ [662, 415, 416, 417, 5, 418, 331, 144, 145, 146, 663, 664, 665, 666, 667, 668, 669, 670, 335, 114, 115, 116, 435, 436, 437, 438, 110, 439, 440, 441, 442, 113, 443, 444, 445, 827, 828, 829, 830, 831, 832, 833, 834, 835, 836, 837, 838, 839, 840, 841, 842, 843, 844, 845, 846, 847, 848, 849, 850, 851, 852, 853, 854, 855, 856, 857] (by decide +kernel) (by decide +kernel)
set_option maxRecDepth 20000 in
theorem gL_law_X12_holders : GoodIn wsL_law (wsV RL 77 RX12 yX12_holders wsX12_holders) := goodIn_app (goodIn_of _ (by decide +kernel)) ggL_law_X12_holders
set_option maxRecDepth 20000 in
theorem ggL_law_X11_invite : GoodIn wsL_law wsX11_invite := goodIn_r _ [674, 19, 31, 340, 341, 342, 18, 343, 313, 638, 639, 640, 30, 641, 642, 643, 644, 101, 102, 645, 646, 647, 648, 649, 650, 651, 652, 653, 171, 2, 172, 654, 379, 380, 381, 45, 382, 358, 359, 360, 361, 62, 362, 383, 384, 385, 386, 387, 54, 388, 389, 390, 391, 51, 392, 393, 394, 395, 48, 396, 397, 57, 398, 399, 400, 60, 401, 137, 138, 675, 676, 677, 678, 679, 512, 513, 514, 515, 516, 517, 518, 680, 681, 682, 683, 684, 202, 203, 204, 817, 818, 819, 820, 821, 822, 823, 824, 825, 826, 860, 861, 862, 863, 878, 879, 880, 881, 864, 865, 866, 867, 868, 869, 870, 871, 872, 873] (by decide +kernel) (by decide +kernel)
set_option maxRecDepth 20000 in
theorem gL_law_X11_invite : GoodIn wsL_law (wsV RL 78 RX11 yX11_invite wsX11_invite) := goodIn_app (goodIn_of _ (by decide +kernel)) ggL_law_X11_invite
set_option maxRecDepth 20000 in
theorem ggL_law_X12_invite : GoodIn wsL_law wsX12_invite := goodIn_r _ [688, 415, 416, 417, 5, 418, 331, 144, 145, 146, 689, 690, 691, 692, 562, 663, 664, 665, 666, 667, 668, 669, 670, 335, 114, 115, 116, 435, 436, 437, 438, 110, 439, 440, 441, 442, 113, 443, 444, 445, 693, 694, 695, 696, 827, 828, 829, 830, 831, 832, 833, 834, 835, 836, 837, 838, 839, 840, 841, 842, 843, 844, 845, 846, 847, 848, 849, 850, 851, 852, 853, 854, 855, 856, 857] (by decide +kernel) (by decide +kernel)
set_option maxRecDepth 20000 in
theorem gL_law_X12_invite : GoodIn wsL_law (wsV RL 81 RX12 yX12_invite wsX12_invite) := goodIn_app (goodIn_of _ (by decide +kernel)) ggL_law_X12_invite
set_option maxRecDepth 20000 in
theorem ggL_law_X11_years : GoodIn wsL_law wsX11_years := goodIn_r _ [700, 19, 302, 35, 701, 702, 703, 704, 705, 706, 34, 707, 708, 709, 710, 711, 712, 713, 714, 715, 716, 717, 718, 719, 720, 476, 2, 477, 367, 368, 369, 721, 722, 723, 18, 724, 313, 725, 371, 372, 373, 365, 366, 410, 375, 376, 377, 45, 314, 315, 171, 172, 378, 379, 380, 381, 382, 358, 359, 360, 361, 62, 362, 341, 342, 343, 383, 384, 385, 386, 387, 54, 388, 389, 390, 391, 51, 392, 393, 394, 395, 48, 396, 397, 57, 398, 399, 400, 60, 401, 817, 818, 819, 820, 821, 822, 823, 824, 825, 826, 860, 861, 862, 863, 882, 883, 884, 864, 865, 866, 867, 868, 869, 870, 871, 872, 873] (by decide +kernel) (by decide +kernel)
set_option maxRecDepth 20000 in
theorem gL_law_X11_years : GoodIn wsL_law (wsV RL 82 RX11 yX11_years wsX11_years) := goodIn_app (goodIn_of _ (by decide +kernel)) ggL_law_X11_years
set_option maxRecDepth 20000 in
theorem ggL_law_X12_years : GoodIn wsL_law wsX12_years := goodIn_r _ [729, 331, 144, 145, 5, 146, 730, 731, 732, 733, 120, 112, 734, 735, 736, 737, 738, 739, 740, 741, 742, 743, 744, 745, 746, 423, 424, 425, 426, 427, 428, 429, 430, 431, 432, 433, 434, 111, 435, 436, 437, 438, 110, 439, 440, 441, 442, 113, 443, 444, 445, 827, 828, 829, 830, 831, 832, 833, 834, 835, 836, 837, 838, 839, 840, 841, 842, 843, 844, 845, 846, 847, 848, 849, 850, 851, 852, 853, 854, 855, 856, 857] (by decide +kernel) (by decide +kernel)
set_option maxRecDepth 20000 in
theorem gL_law_X12_years : GoodIn wsL_law (wsV RL 85 RX12 yX12_years wsX12_years) := goodIn_app (goodIn_of _ (by decide +kernel)) ggL_law_X12_years
set_option maxRecDepth 20000 in
theorem ggL_law_X11_image : GoodIn wsL_law wsX11_image := goodIn_r _ [750, 19, 302, 23, 348, 301, 751, 474, 486, 752, 753, 754, 22, 755, 66, 67, 68, 69, 70, 71, 320, 321, 322, 323, 171, 2, 172, 137, 138, 817, 818, 819, 820, 821, 822, 823, 824, 825, 826, 860, 861, 862, 863, 864, 865, 866, 867, 868, 869, 870, 871, 872, 873] (by decide +kernel) (by decide +kernel)
set_option maxRecDepth 20000 in
theorem gL_law_X11_image : GoodIn wsL_law (wsV RL 86 RX11 yX11_image wsX11_image) := goodIn_app (goodIn_of _ (by decide +kernel)) ggL_law_X11_image
set_option maxRecDepth 20000 in
theorem ggL_law_X12_image : GoodIn wsL_law wsX12_image := goodIn_r _ [759, 331, 760, 332, 761, 333, 762, 334, 763, 335, 764, 121, 111, 122, 112, 123, 113, 124, 114, 125, 115, 126, 116, 827, 828, 829, 830, 831, 832, 833, 834, 835, 836, 837, 838, 839, 840, 841, 842, 843, 844, 845, 846, 847, 848, 849, 850, 851, 852, 853, 854, 855, 856, 857] (by decide +kernel) (by decide +kernel)
set_option maxRecDepth 20000 in
theorem gL_law_X12_image : GoodIn wsL_law (wsV RL 89 RX12 yX12_image wsX12_image) := goodIn_app (goodIn_of _ (by decide +kernel)) ggL_law_X12_image
set_option maxRecDepth 20000 in
theorem ggL_law_X11_restore : GoodIn wsL_law wsX11_restore := goodIn_r _ [768, 751, 301, 19, 348, 23, 474, 486, 752, 753, 754, 22, 755, 66, 67, 68, 69, 70, 71, 320, 321, 322, 323, 171, 2, 172, 137, 138, 817, 818, 819, 820, 821, 822, 823, 824, 825, 826, 860, 861, 862, 863, 864, 865, 866, 867, 868, 869, 870, 871, 872, 873] (by decide +kernel) (by decide +kernel)
set_option maxRecDepth 20000 in
theorem gL_law_X11_restore : GoodIn wsL_law (wsV RL 90 RX11 yX11_restore wsX11_restore) := goodIn_app (goodIn_of _ (by decide +kernel)) ggL_law_X11_restore
set_option maxRecDepth 20000 in
theorem ggL_law_X12_restore : GoodIn wsL_law wsX12_restore := goodIn_r _ [772, 760, 761, 332, 762, 333, 763, 334, 764, 335, 111, 121, 112, 122, 113, 123, 114, 124, 115, 125, 116, 126, 827, 828, 829, 830, 831, 832, 833, 834, 835, 836, 837, 838, 839, 840, 841, 842, 843, 844, 845, 846, 847, 848, 849, 850, 851, 852, 853, 854, 855, 856, 857] (by decide +kernel) (by decide +kernel)
set_option maxRecDepth 20000 in
theorem gL_law_X12_restore : GoodIn wsL_law (wsV RL 93 RX12 yX12_restore wsX12_restore) := goodIn_app (goodIn_of _ (by decide +kernel)) ggL_law_X12_restore
set_option maxRecDepth 20000 in
theorem ggL_law_X11_count : GoodIn wsL_law wsX11_count := goodIn_r _ [776, 19, 302, 348, 351, 474, 486, 616, 15, 131, 301, 531, 579, 777, 722, 723, 18, 724, 313, 725, 371, 372, 373, 365, 2, 366, 367, 368, 369, 410, 375, 376, 377, 45, 314, 315, 171, 172, 378, 379, 380, 381, 382, 358, 359, 360, 361, 62, 362, 341, 342, 343, 383, 384, 385, 386, 387, 54, 388, 389, 390, 391, 51, 392, 393, 394, 395, 48, 396, 397, 57, 398, 399, 400, 60, 401, 778, 779, 780, 781, 782, 545, 546, 547, 548, 549, 550, 817, 818, 819, 820, 821, 822, 823, 824, 825, 826, 860, 861, 862, 863, 864, 865, 866, 867, 868, 869, 870, 871, 872, 873, 858, 859] (by decide +kernel) (by decide +kernel)
set_option maxRecDepth 20000 in
theorem gL_law_X11_count : GoodIn wsL_law (wsV RL 94 RX11 yX11_count wsX11_count) := goodIn_app (goodIn_of _ (by decide +kernel)) ggL_law_X11_count
set_option maxRecDepth 20000 in
theorem ggL_law_X12_count : GoodIn wsL_law wsX12_count := goodIn_r _ [786, 787, 788, 789, 5, 790, 331, 333, 334, 335, 143, 332, 557, 599, 743, 744, 745, 746, 423, 424, 425, 426, 427, 428, 429, 430, 112, 431, 432, 433, 434, 111, 435, 436, 437, 438, 110, 439, 440, 441, 442, 113, 443, 444, 445, 791, 792, 793, 794, 795, 796, 797, 827, 828, 829, 830, 831, 832, 833, 834, 835, 836, 837, 838, 839, 840, 841, 842, 843, 844, 845, 846, 847, 848, 849, 850, 851, 852, 853, 854, 855, 856, 857] (by decide +kernel) (by decide +kernel)
set_option maxRecDepth 20000 in
theorem gL_law_X12_count : GoodIn wsL_law (wsV RL 97 RX12 yX12_count wsX12_count) := goodIn_app (goodIn_of _ (by decide +kernel)) ggL_law_X12_count
set_option maxRecDepth 20000 in
theorem ggL_law_X11_digest : GoodIn wsL_law wsX11_digest := goodIn_r _ [801, 802, 19, 302, 803, 31, 637, 15, 131, 804, 344, 345, 346, 2, 347, 348, 349, 350, 351, 352, 353, 354, 355, 18, 356, 357, 358, 359, 360, 361, 62, 362, 341, 342, 343, 313, 363, 171, 172, 364, 365, 366, 367, 368, 369, 370, 371, 372, 373, 374, 375, 376, 377, 45, 314, 315, 378, 379, 380, 381, 382, 383, 384, 385, 386, 387, 54, 388, 389, 390, 391, 51, 392, 393, 394, 395, 48, 396, 397, 57, 398, 399, 400, 60, 401, 402, 403, 404, 405, 406, 407, 408, 409, 410, 638, 639, 640, 30, 641, 642, 643, 644, 101, 102, 645, 646, 647, 648, 649, 650, 651, 652, 653, 654, 137, 138, 655, 656, 657, 658, 675, 676, 677, 678, 679, 512, 513, 514, 515, 516, 517, 518, 680, 681, 682, 683, 684, 202, 203, 204, 805, 774, 775, 776, 474, 486, 616, 301, 531, 579, 777, 722, 723, 724, 725, 778, 779, 780, 781, 782, 545, 546, 547, 548, 549, 550, 817, 818, 819, 820, 821, 822, 823, 824, 825, 826, 860, 861, 862, 863, 878, 879, 880, 881, 858, 859, 864, 865, 866, 867, 868, 869, 870, 871, 872, 873, 887, 886, 885, 888, 889] (by decide +kernel) (by decide +kernel)
set_option maxRecDepth 20000 in
theorem gL_law_X11_digest : GoodIn wsL_law (wsV RL 98 RX11 yX11_digest wsX11_digest) := goodIn_app (goodIn_of _ (by decide +kernel)) ggL_law_X11_digest
set_option maxRecDepth 20000 in
theorem ggL_law_X12_digest : GoodIn wsL_law wsX12_digest := goodIn_r _ [809, 810, 811, 331, 143, 118, 419, 420, 421, 5, 422, 110, 111, 112, 113, 423, 424, 425, 426, 427, 428, 429, 430, 431, 432, 433, 434, 435, 436, 437, 438, 439, 440, 441, 442, 443, 444, 445, 446, 447, 448, 449, 450, 451, 452, 453, 812, 813, 814, 815, 816, 663, 664, 665, 666, 667, 668, 669, 670, 335, 114, 115, 116, 689, 690, 691, 692, 562, 693, 694, 695, 696, 787, 788, 789, 790, 333, 334, 332, 557, 599, 743, 744, 745, 746, 791, 792, 793, 794, 795, 796, 797, 827, 828, 829, 830, 831, 832, 833, 834, 835, 836, 837, 838, 839, 840, 841, 842, 843, 844, 845, 846, 847, 848, 849, 850, 851, 852, 853, 854, 855, 856, 857] (by decide +kernel) (by decide +kernel)
set_option maxRecDepth 20000 in
theorem gL_law_X12_digest : GoodIn wsL_law (wsV RL 102 RX12 yX12_digest wsX12_digest) := goodIn_app (goodIn_of _ (by decide +kernel)) ggL_law_X12_digest
end
section
theorem dX0_init_0 : decode cX0_init 0 = .ok (.aload_n 0, 1) := by decide +kernel
theorem dX0_init_1 : decode cX0_init 1 = .ok (.iload_n 1, 1) := by decide +kernel
theorem dX0_init_2 : decode cX0_init 2 = .ok (.invokespecial 1, 3) := by decide +kernel
theorem dX0_init_5 : decode cX0_init 5 = .ok (.return_, 1) := by decide +kernel
theorem dX0_isSpelt_0 : decode cX0_isSpelt 0 = .ok (.iload_n 1, 1) := by decide +kernel
theorem dX0_isSpelt_1 : decode cX0_isSpelt 1 = .ok (.ifCond .ne 7, 3) := by decide +kernel
theorem dX0_isSpelt_4 : decode cX0_isSpelt 4 = .ok (.iload_n 2, 1) := by decide +kernel
theorem dX0_isSpelt_5 : decode cX0_isSpelt 5 = .ok (.ifCond .eq 7, 3) := by decide +kernel
theorem dX0_isSpelt_8 : decode cX0_isSpelt 8 = .ok (.iconst 1, 1) := by decide +kernel
theorem dX0_isSpelt_9 : decode cX0_isSpelt 9 = .ok (.goto 4, 3) := by decide +kernel
theorem dX0_isSpelt_12 : decode cX0_isSpelt 12 = .ok (.iconst 0, 1) := by decide +kernel
theorem dX0_isSpelt_13 : decode cX0_isSpelt 13 = .ok (.ireturn, 1) := by decide +kernel
theorem dX1_init_0 : decode cX1_init 0 = .ok (.aload_n 0, 1) := by decide +kernel
theorem dX1_init_1 : decode cX1_init 1 = .ok (.invokespecial 3, 3) := by decide +kernel
theorem dX1_init_4 : decode cX1_init 4 = .ok (.aload_n 0, 1) := by decide +kernel
theorem dX1_init_5 : decode cX1_init 5 = .ok (.bipush 25, 2) := by decide +kernel
theorem dX1_init_7 : decode cX1_init 7 = .ok (.newarray .int, 2) := by decide +kernel
theorem dX1_init_9 : decode cX1_init 9 = .ok (.putfield 9, 3) := by decide +kernel
theorem dX1_init_12 : decode cX1_init 12 = .ok (.aload_n 0, 1) := by decide +kernel
theorem dX1_init_13 : decode cX1_init 13 = .ok (.bipush 25, 2) := by decide +kernel
theorem dX1_init_15 : decode cX1_init 15 = .ok (.newarray .int, 2) := by decide +kernel
theorem dX1_init_17 : decode cX1_init 17 = .ok (.putfield 15, 3) := by decide +kernel
theorem dX1_init_20 : decode cX1_init 20 = .ok (.return_, 1) := by decide +kernel
theorem dX1_gather_0 : decode cX1_gather 0 = .ok (.aload_n 0, 1) := by decide +kernel
theorem dX1_gather_1 : decode cX1_gather 1 = .ok (.iload_n 2, 1) := by decide +kernel
theorem dX1_gather_2 : decode cX1_gather 2 = .ok (.putfield 18, 3) := by decide +kernel
theorem dX1_gather_5 : decode cX1_gather 5 = .ok (.aload_n 0, 1) := by decide +kernel
theorem dX1_gather_6 : decode cX1_gather 6 = .ok (.iconst 0, 1) := by decide +kernel
theorem dX1_gather_7 : decode cX1_gather 7 = .ok (.putfield 22, 3) := by decide +kernel
theorem dX1_gather_10 : decode cX1_gather 10 = .ok (.iconst 0, 1) := by decide +kernel
theorem dX1_gather_11 : decode cX1_gather 11 = .ok (.istore_n 3, 1) := by decide +kernel
theorem dX1_gather_12 : decode cX1_gather 12 = .ok (.iload_n 3, 1) := by decide +kernel
theorem dX1_gather_13 : decode cX1_gather 13 = .ok (.aload_n 1, 1) := by decide +kernel
theorem dX1_gather_14 : decode cX1_gather 14 = .ok (.getfield 25, 3) := by decide +kernel
theorem dX1_gather_17 : decode cX1_gather 17 = .ok (.if_icmp .ge 73, 3) := by decide +kernel
theorem dX1_gather_20 : decode cX1_gather 20 = .ok (.iconst 0, 1) := by decide +kernel
theorem dX1_gather_21 : decode cX1_gather 21 = .ok (.istore 4, 2) := by decide +kernel
theorem dX1_gather_23 : decode cX1_gather 23 = .ok (.iload 4, 2) := by decide +kernel
theorem dX1_gather_25 : decode cX1_gather 25 = .ok (.aload_n 1, 1) := by decide +kernel
theorem dX1_gather_26 : decode cX1_gather 26 = .ok (.getfield 25, 3) := by decide +kernel
theorem dX1_gather_29 : decode cX1_gather 29 = .ok (.if_icmp .ge 55, 3) := by decide +kernel
theorem dX1_gather_32 : decode cX1_gather 32 = .ok (.aload_n 0, 1) := by decide +kernel
theorem dX1_gather_33 : decode cX1_gather 33 = .ok (.aload_n 1, 1) := by decide +kernel
theorem dX1_gather_34 : decode cX1_gather 34 = .ok (.iload_n 3, 1) := by decide +kernel
theorem dX1_gather_35 : decode cX1_gather 35 = .ok (.iload 4, 2) := by decide +kernel
theorem dX1_gather_37 : decode cX1_gather 37 = .ok (.invokevirtual 30, 3) := by decide +kernel
theorem dX1_gather_40 : decode cX1_gather 40 = .ok (.ifCond .eq 38, 3) := by decide +kernel
theorem dX1_gather_43 : decode cX1_gather 43 = .ok (.aload_n 0, 1) := by decide +kernel
theorem dX1_gather_44 : decode cX1_gather 44 = .ok (.getfield 9, 3) := by decide +kernel
theorem dX1_gather_47 : decode cX1_gather 47 = .ok (.aload_n 0, 1) := by decide +kernel
theorem dX1_gather_48 : decode cX1_gather 48 = .ok (.getfield 22, 3) := by decide +kernel
theorem dX1_gather_51 : decode cX1_gather 51 = .ok (.iload_n 3, 1) := by decide +kernel
theorem dX1_gather_52 : decode cX1_gather 52 = .ok (.invokestatic 34, 3) := by decide +kernel
theorem dX1_gather_55 : decode cX1_gather 55 = .ok (.aload_n 0, 1) := by decide +kernel
theorem dX1_gather_56 : decode cX1_gather 56 = .ok (.getfield 15, 3) := by decide +kernel
theorem dX1_gather_59 : decode cX1_gather 59 = .ok (.aload_n 0, 1) := by decide +kernel
theorem dX1_gather_60 : decode cX1_gather 60 = .ok (.getfield 22, 3) := by decide +kernel
theorem dX1_gather_63 : decode cX1_gather 63 = .ok (.iload 4, 2) := by decide +kernel
theorem dX1_gather_65 : decode cX1_gather 65 = .ok (.invokestatic 34, 3) := by decide +kernel
theorem dX1_gather_68 : decode cX1_gather 68 = .ok (.aload_n 0, 1) := by decide +kernel
theorem dX1_gather_69 : decode cX1_gather 69 = .ok (.dup, 1) := by decide +kernel
theorem dX1_gather_70 : decode cX1_gather 70 = .ok (.getfield 22, 3) := by decide +kernel
theorem dX1_gather_73 : decode cX1_gather 73 = .ok (.iconst 1, 1) := by decide +kernel
theorem dX1_gather_74 : decode cX1_gather 74 = .ok (.iadd, 1) := by decide +kernel
theorem dX1_gather_75 : decode cX1_gather 75 = .ok (.putfield 22, 3) := by decide +kernel
theorem dX1_gather_78 : decode cX1_gather 78 = .ok (.iinc 4 1, 3) := by decide +kernel
theorem dX1_gather_81 : decode cX1_gather 81 = .ok (.goto (-58), 3) := by decide +kernel
theorem dX1_gather_84 : decode cX1_gather 84 = .ok (.iinc 3 1, 3) := by decide +kernel
theorem dX1_gather_87 : decode cX1_gather 87 = .ok (.goto (-75), 3) := by decide +kernel
theorem dX1_gather_90 : decode cX1_gather 90 = .ok (.return_, 1) := by decide +kernel
theorem dX1_agrees_0 : decode cX1_agrees 0 = .ok (.aload_n 1, 1) := by decide +kernel
theorem dX1_agrees_1 : decode cX1_agrees 1 = .ok (.getfield 38, 3) := by decide +kernel
theorem dX1_agrees_4 : decode cX1_agrees 4 = .ok (.astore 4, 2) := by decide +kernel
theorem dX1_agrees_6 : decode cX1_agrees 6 = .ok (.iconst 0, 1) := by decide +kernel
theorem dX1_agrees_7 : decode cX1_agrees 7 = .ok (.istore 5, 2) := by decide +kernel
theorem dX1_agrees_9 : decode cX1_agrees 9 = .ok (.iload 5, 2) := by decide +kernel
theorem dX1_agrees_11 : decode cX1_agrees 11 = .ok (.aload 4, 2) := by decide +kernel
theorem dX1_agrees_13 : decode cX1_agrees 13 = .ok (.getfield 42, 3) := by decide +kernel
theorem dX1_agrees_16 : decode cX1_agrees 16 = .ok (.if_icmp .ge 74, 3) := by decide +kernel
theorem dX1_agrees_19 : decode cX1_agrees 19 = .ok (.aload 4, 2) := by decide +kernel
theorem dX1_agrees_21 : decode cX1_agrees 21 = .ok (.getfield 47, 3) := by decide +kernel
theorem dX1_agrees_24 : decode cX1_agrees 24 = .ok (.iload 5, 2) := by decide +kernel
theorem dX1_agrees_26 : decode cX1_agrees 26 = .ok (.invokestatic 50, 3) := by decide +kernel
theorem dX1_agrees_29 : decode cX1_agrees 29 = .ok (.aload_n 0, 1) := by decide +kernel
theorem dX1_agrees_30 : decode cX1_agrees 30 = .ok (.getfield 18, 3) := by decide +kernel
theorem dX1_agrees_33 : decode cX1_agrees 33 = .ok (.if_icmp .ne 51, 3) := by decide +kernel
theorem dX1_agrees_36 : decode cX1_agrees 36 = .ok (.aload_n 1, 1) := by decide +kernel
theorem dX1_agrees_37 : decode cX1_agrees 37 = .ok (.aload_n 0, 1) := by decide +kernel
theorem dX1_agrees_38 : decode cX1_agrees 38 = .ok (.getfield 18, 3) := by decide +kernel
theorem dX1_agrees_41 : decode cX1_agrees 41 = .ok (.aload 4, 2) := by decide +kernel
theorem dX1_agrees_43 : decode cX1_agrees 43 = .ok (.getfield 54, 3) := by decide +kernel
theorem dX1_agrees_46 : decode cX1_agrees 46 = .ok (.iload 5, 2) := by decide +kernel
theorem dX1_agrees_48 : decode cX1_agrees 48 = .ok (.invokestatic 50, 3) := by decide +kernel
theorem dX1_agrees_51 : decode cX1_agrees 51 = .ok (.iload_n 2, 1) := by decide +kernel
theorem dX1_agrees_52 : decode cX1_agrees 52 = .ok (.iload_n 3, 1) := by decide +kernel
theorem dX1_agrees_53 : decode cX1_agrees 53 = .ok (.invokevirtual 57, 3) := by decide +kernel
theorem dX1_agrees_56 : decode cX1_agrees 56 = .ok (.istore 6, 2) := by decide +kernel
theorem dX1_agrees_58 : decode cX1_agrees 58 = .ok (.iload 6, 2) := by decide +kernel
theorem dX1_agrees_60 : decode cX1_agrees 60 = .ok (.aload 4, 2) := by decide +kernel
theorem dX1_agrees_62 : decode cX1_agrees 62 = .ok (.getfield 61, 3) := by decide +kernel
theorem dX1_agrees_65 : decode cX1_agrees 65 = .ok (.iload 5, 2) := by decide +kernel
theorem dX1_agrees_67 : decode cX1_agrees 67 = .ok (.invokestatic 50, 3) := by decide +kernel
theorem dX1_agrees_70 : decode cX1_agrees 70 = .ok (.iconst 1, 1) := by decide +kernel
theorem dX1_agrees_71 : decode cX1_agrees 71 = .ok (.if_icmp .ne 7, 3) := by decide +kernel
theorem dX1_agrees_74 : decode cX1_agrees 74 = .ok (.iconst 1, 1) := by decide +kernel
theorem dX1_agrees_75 : decode cX1_agrees 75 = .ok (.goto 4, 3) := by decide +kernel
theorem dX1_agrees_78 : decode cX1_agrees 78 = .ok (.iconst 0, 1) := by decide +kernel
theorem dX1_agrees_79 : decode cX1_agrees 79 = .ok (.if_icmp .eq 5, 3) := by decide +kernel
theorem dX1_agrees_82 : decode cX1_agrees 82 = .ok (.iconst 0, 1) := by decide +kernel
theorem dX1_agrees_83 : decode cX1_agrees 83 = .ok (.ireturn, 1) := by decide +kernel
theorem dX1_agrees_84 : decode cX1_agrees 84 = .ok (.iinc 5 1, 3) := by decide +kernel
theorem dX1_agrees_87 : decode cX1_agrees 87 = .ok (.goto (-78), 3) := by decide +kernel
theorem dX1_agrees_90 : decode cX1_agrees 90 = .ok (.iconst 1, 1) := by decide +kernel
theorem dX1_agrees_91 : decode cX1_agrees 91 = .ok (.ireturn, 1) := by decide +kernel
theorem dX1_least_0 : decode cX1_least 0 = .ok (.aload_n 0, 1) := by decide +kernel
theorem dX1_least_1 : decode cX1_least 1 = .ok (.getfield 22, 3) := by decide +kernel
theorem dX1_least_4 : decode cX1_least 4 = .ok (.ifCond .ne 7, 3) := by decide +kernel
theorem dX1_least_7 : decode cX1_least 7 = .ok (.iconst (-1), 1) := by decide +kernel
theorem dX1_least_8 : decode cX1_least 8 = .ok (.goto 23, 3) := by decide +kernel
theorem dX1_least_11 : decode cX1_least 11 = .ok (.bipush 10, 2) := by decide +kernel
theorem dX1_least_13 : decode cX1_least 13 = .ok (.aload_n 0, 1) := by decide +kernel
theorem dX1_least_14 : decode cX1_least 14 = .ok (.getfield 9, 3) := by decide +kernel
theorem dX1_least_17 : decode cX1_least 17 = .ok (.iconst 0, 1) := by decide +kernel
theorem dX1_least_18 : decode cX1_least 18 = .ok (.invokestatic 50, 3) := by decide +kernel
theorem dX1_least_21 : decode cX1_least 21 = .ok (.imul, 1) := by decide +kernel
theorem dX1_least_22 : decode cX1_least 22 = .ok (.aload_n 0, 1) := by decide +kernel
theorem dX1_least_23 : decode cX1_least 23 = .ok (.getfield 15, 3) := by decide +kernel
theorem dX1_least_26 : decode cX1_least 26 = .ok (.iconst 0, 1) := by decide +kernel
theorem dX1_least_27 : decode cX1_least 27 = .ok (.invokestatic 50, 3) := by decide +kernel
theorem dX1_least_30 : decode cX1_least 30 = .ok (.iadd, 1) := by decide +kernel
theorem dX1_least_31 : decode cX1_least 31 = .ok (.ireturn, 1) := by decide +kernel
theorem dX1_bestCompany_0 : decode cX1_bestCompany 0 = .ok (.aload_n 0, 1) := by decide +kernel
theorem dX1_bestCompany_1 : decode cX1_bestCompany 1 = .ok (.getfield 22, 3) := by decide +kernel
theorem dX1_bestCompany_4 : decode cX1_bestCompany 4 = .ok (.ifCond .ne 5, 3) := by decide +kernel
theorem dX1_bestCompany_7 : decode cX1_bestCompany 7 = .ok (.iconst (-1), 1) := by decide +kernel
theorem dX1_bestCompany_8 : decode cX1_bestCompany 8 = .ok (.ireturn, 1) := by decide +kernel
theorem dX1_bestCompany_9 : decode cX1_bestCompany 9 = .ok (.iconst (-1), 1) := by decide +kernel
theorem dX1_bestCompany_10 : decode cX1_bestCompany 10 = .ok (.istore_n 2, 1) := by decide +kernel
theorem dX1_bestCompany_11 : decode cX1_bestCompany 11 = .ok (.aload_n 0, 1) := by decide +kernel
theorem dX1_bestCompany_12 : decode cX1_bestCompany 12 = .ok (.getfield 22, 3) := by decide +kernel
theorem dX1_bestCompany_15 : decode cX1_bestCompany 15 = .ok (.iconst 1, 1) := by decide +kernel
theorem dX1_bestCompany_16 : decode cX1_bestCompany 16 = .ok (.iadd, 1) := by decide +kernel
theorem dX1_bestCompany_17 : decode cX1_bestCompany 17 = .ok (.istore_n 3, 1) := by decide +kernel
theorem dX1_bestCompany_18 : decode cX1_bestCompany 18 = .ok (.iconst 0, 1) := by decide +kernel
theorem dX1_bestCompany_19 : decode cX1_bestCompany 19 = .ok (.istore 4, 2) := by decide +kernel
theorem dX1_bestCompany_21 : decode cX1_bestCompany 21 = .ok (.iload 4, 2) := by decide +kernel
theorem dX1_bestCompany_23 : decode cX1_bestCompany 23 = .ok (.iconst 1, 1) := by decide +kernel
theorem dX1_bestCompany_24 : decode cX1_bestCompany 24 = .ok (.aload_n 1, 1) := by decide +kernel
theorem dX1_bestCompany_25 : decode cX1_bestCompany 25 = .ok (.getfield 25, 3) := by decide +kernel
theorem dX1_bestCompany_28 : decode cX1_bestCompany 28 = .ok (.ishl, 1) := by decide +kernel
theorem dX1_bestCompany_29 : decode cX1_bestCompany 29 = .ok (.if_icmp .ge 43, 3) := by decide +kernel
theorem dX1_bestCompany_32 : decode cX1_bestCompany 32 = .ok (.aload_n 1, 1) := by decide +kernel
theorem dX1_bestCompany_33 : decode cX1_bestCompany 33 = .ok (.aload_n 0, 1) := by decide +kernel
theorem dX1_bestCompany_34 : decode cX1_bestCompany 34 = .ok (.getfield 18, 3) := by decide +kernel
theorem dX1_bestCompany_37 : decode cX1_bestCompany 37 = .ok (.iload 4, 2) := by decide +kernel
theorem dX1_bestCompany_39 : decode cX1_bestCompany 39 = .ok (.invokevirtual 64, 3) := by decide +kernel
theorem dX1_bestCompany_42 : decode cX1_bestCompany 42 = .ok (.ifCond .eq 24, 3) := by decide +kernel
theorem dX1_bestCompany_45 : decode cX1_bestCompany 45 = .ok (.aload_n 0, 1) := by decide +kernel
theorem dX1_bestCompany_46 : decode cX1_bestCompany 46 = .ok (.aload_n 1, 1) := by decide +kernel
theorem dX1_bestCompany_47 : decode cX1_bestCompany 47 = .ok (.iload 4, 2) := by decide +kernel
theorem dX1_bestCompany_49 : decode cX1_bestCompany 49 = .ok (.invokevirtual 68, 3) := by decide +kernel
theorem dX1_bestCompany_52 : decode cX1_bestCompany 52 = .ok (.istore 5, 2) := by decide +kernel
theorem dX1_bestCompany_54 : decode cX1_bestCompany 54 = .ok (.iload 5, 2) := by decide +kernel
theorem dX1_bestCompany_56 : decode cX1_bestCompany 56 = .ok (.iload_n 3, 1) := by decide +kernel
theorem dX1_bestCompany_57 : decode cX1_bestCompany 57 = .ok (.if_icmp .ge 9, 3) := by decide +kernel
theorem dX1_bestCompany_60 : decode cX1_bestCompany 60 = .ok (.iload 5, 2) := by decide +kernel
theorem dX1_bestCompany_62 : decode cX1_bestCompany 62 = .ok (.istore_n 3, 1) := by decide +kernel
theorem dX1_bestCompany_63 : decode cX1_bestCompany 63 = .ok (.iload 4, 2) := by decide +kernel
theorem dX1_bestCompany_65 : decode cX1_bestCompany 65 = .ok (.istore_n 2, 1) := by decide +kernel
theorem dX1_bestCompany_66 : decode cX1_bestCompany 66 = .ok (.iinc 4 1, 3) := by decide +kernel
theorem dX1_bestCompany_69 : decode cX1_bestCompany 69 = .ok (.goto (-48), 3) := by decide +kernel
theorem dX1_bestCompany_72 : decode cX1_bestCompany 72 = .ok (.iload_n 2, 1) := by decide +kernel
theorem dX1_bestCompany_73 : decode cX1_bestCompany 73 = .ok (.ireturn, 1) := by decide +kernel
theorem dX1_leftAtWorst_0 : decode cX1_leftAtWorst 0 = .ok (.iconst 0, 1) := by decide +kernel
theorem dX1_leftAtWorst_1 : decode cX1_leftAtWorst 1 = .ok (.istore_n 3, 1) := by decide +kernel
theorem dX1_leftAtWorst_2 : decode cX1_leftAtWorst 2 = .ok (.iconst 0, 1) := by decide +kernel
theorem dX1_leftAtWorst_3 : decode cX1_leftAtWorst 3 = .ok (.istore 4, 2) := by decide +kernel
theorem dX1_leftAtWorst_5 : decode cX1_leftAtWorst 5 = .ok (.iload 4, 2) := by decide +kernel
theorem dX1_leftAtWorst_7 : decode cX1_leftAtWorst 7 = .ok (.aload_n 0, 1) := by decide +kernel
theorem dX1_leftAtWorst_8 : decode cX1_leftAtWorst 8 = .ok (.getfield 22, 3) := by decide +kernel
theorem dX1_leftAtWorst_11 : decode cX1_leftAtWorst 11 = .ok (.if_icmp .ge 42, 3) := by decide +kernel
theorem dX1_leftAtWorst_14 : decode cX1_leftAtWorst 14 = .ok (.aload_n 1, 1) := by decide +kernel
theorem dX1_leftAtWorst_15 : decode cX1_leftAtWorst 15 = .ok (.aload_n 0, 1) := by decide +kernel
theorem dX1_leftAtWorst_16 : decode cX1_leftAtWorst 16 = .ok (.getfield 18, 3) := by decide +kernel
theorem dX1_leftAtWorst_19 : decode cX1_leftAtWorst 19 = .ok (.iload_n 2, 1) := by decide +kernel
theorem dX1_leftAtWorst_20 : decode cX1_leftAtWorst 20 = .ok (.aload_n 0, 1) := by decide +kernel
theorem dX1_leftAtWorst_21 : decode cX1_leftAtWorst 21 = .ok (.getfield 9, 3) := by decide +kernel
theorem dX1_leftAtWorst_24 : decode cX1_leftAtWorst 24 = .ok (.iload 4, 2) := by decide +kernel
theorem dX1_leftAtWorst_26 : decode cX1_leftAtWorst 26 = .ok (.invokestatic 50, 3) := by decide +kernel
theorem dX1_leftAtWorst_29 : decode cX1_leftAtWorst 29 = .ok (.aload_n 0, 1) := by decide +kernel
theorem dX1_leftAtWorst_30 : decode cX1_leftAtWorst 30 = .ok (.getfield 15, 3) := by decide +kernel
theorem dX1_leftAtWorst_33 : decode cX1_leftAtWorst 33 = .ok (.iload 4, 2) := by decide +kernel
theorem dX1_leftAtWorst_35 : decode cX1_leftAtWorst 35 = .ok (.invokestatic 50, 3) := by decide +kernel
theorem dX1_leftAtWorst_38 : decode cX1_leftAtWorst 38 = .ok (.invokevirtual 57, 3) := by decide +kernel
theorem dX1_leftAtWorst_41 : decode cX1_leftAtWorst 41 = .ok (.ifCond .eq 6, 3) := by decide +kernel
theorem dX1_leftAtWorst_44 : decode cX1_leftAtWorst 44 = .ok (.iinc 3 1, 3) := by decide +kernel
theorem dX1_leftAtWorst_47 : decode cX1_leftAtWorst 47 = .ok (.iinc 4 1, 3) := by decide +kernel
theorem dX1_leftAtWorst_50 : decode cX1_leftAtWorst 50 = .ok (.goto (-45), 3) := by decide +kernel
theorem dX1_leftAtWorst_53 : decode cX1_leftAtWorst 53 = .ok (.iload_n 3, 1) := by decide +kernel
theorem dX1_leftAtWorst_54 : decode cX1_leftAtWorst 54 = .ok (.aload_n 0, 1) := by decide +kernel
theorem dX1_leftAtWorst_55 : decode cX1_leftAtWorst 55 = .ok (.getfield 22, 3) := by decide +kernel
theorem dX1_leftAtWorst_58 : decode cX1_leftAtWorst 58 = .ok (.iload_n 3, 1) := by decide +kernel
theorem dX1_leftAtWorst_59 : decode cX1_leftAtWorst 59 = .ok (.isub, 1) := by decide +kernel
theorem dX1_leftAtWorst_60 : decode cX1_leftAtWorst 60 = .ok (.invokestatic 72, 3) := by decide +kernel
theorem dX1_leftAtWorst_63 : decode cX1_leftAtWorst 63 = .ok (.ireturn, 1) := by decide +kernel
theorem dX2_init_0 : decode cX2_init 0 = .ok (.aload_n 0, 1) := by decide +kernel
theorem dX2_init_1 : decode cX2_init 1 = .ok (.iconst 1, 1) := by decide +kernel
theorem dX2_init_2 : decode cX2_init 2 = .ok (.invokespecial 1, 3) := by decide +kernel
theorem dX2_init_5 : decode cX2_init 5 = .ok (.return_, 1) := by decide +kernel
theorem dX2_isSpelt_0 : decode cX2_isSpelt 0 = .ok (.iload_n 3, 1) := by decide +kernel
theorem dX2_isSpelt_1 : decode cX2_isSpelt 1 = .ok (.ifCond .eq 11, 3) := by decide +kernel
theorem dX2_isSpelt_4 : decode cX2_isSpelt 4 = .ok (.iload_n 1, 1) := by decide +kernel
theorem dX2_isSpelt_5 : decode cX2_isSpelt 5 = .ok (.ifCond .eq 11, 3) := by decide +kernel
theorem dX2_isSpelt_8 : decode cX2_isSpelt 8 = .ok (.iload_n 2, 1) := by decide +kernel
theorem dX2_isSpelt_9 : decode cX2_isSpelt 9 = .ok (.ifCond .eq 7, 3) := by decide +kernel
theorem dX2_isSpelt_12 : decode cX2_isSpelt 12 = .ok (.iconst 1, 1) := by decide +kernel
theorem dX2_isSpelt_13 : decode cX2_isSpelt 13 = .ok (.goto 4, 3) := by decide +kernel
theorem dX2_isSpelt_16 : decode cX2_isSpelt 16 = .ok (.iconst 0, 1) := by decide +kernel
theorem dX2_isSpelt_17 : decode cX2_isSpelt 17 = .ok (.ireturn, 1) := by decide +kernel
theorem dX3_init_0 : decode cX3_init 0 = .ok (.aload_n 0, 1) := by decide +kernel
theorem dX3_init_1 : decode cX3_init 1 = .ok (.invokespecial 3, 3) := by decide +kernel
theorem dX3_init_4 : decode cX3_init 4 = .ok (.aload_n 0, 1) := by decide +kernel
theorem dX3_init_5 : decode cX3_init 5 = .ok (.iconst 5, 1) := by decide +kernel
theorem dX3_init_6 : decode cX3_init 6 = .ok (.newarray .int, 2) := by decide +kernel
theorem dX3_init_8 : decode cX3_init 8 = .ok (.putfield 9, 3) := by decide +kernel
theorem dX3_init_11 : decode cX3_init 11 = .ok (.aload_n 0, 1) := by decide +kernel
theorem dX3_init_12 : decode cX3_init 12 = .ok (.iconst 5, 1) := by decide +kernel
theorem dX3_init_13 : decode cX3_init 13 = .ok (.newarray .int, 2) := by decide +kernel
theorem dX3_init_15 : decode cX3_init 15 = .ok (.putfield 15, 3) := by decide +kernel
theorem dX3_init_18 : decode cX3_init 18 = .ok (.aload_n 0, 1) := by decide +kernel
theorem dX3_init_19 : decode cX3_init 19 = .ok (.iconst 5, 1) := by decide +kernel
theorem dX3_init_20 : decode cX3_init 20 = .ok (.newarray .int, 2) := by decide +kernel
theorem dX3_init_22 : decode cX3_init 22 = .ok (.putfield 18, 3) := by decide +kernel
theorem dX3_init_25 : decode cX3_init 25 = .ok (.aload_n 0, 1) := by decide +kernel
theorem dX3_init_26 : decode cX3_init 26 = .ok (.bipush 6, 2) := by decide +kernel
theorem dX3_init_28 : decode cX3_init 28 = .ok (.newarray .int, 2) := by decide +kernel
theorem dX3_init_30 : decode cX3_init 30 = .ok (.putfield 21, 3) := by decide +kernel
theorem dX3_init_33 : decode cX3_init 33 = .ok (.aload_n 0, 1) := by decide +kernel
theorem dX3_init_34 : decode cX3_init 34 = .ok (.bipush 6, 2) := by decide +kernel
theorem dX3_init_36 : decode cX3_init 36 = .ok (.newarray .int, 2) := by decide +kernel
theorem dX3_init_38 : decode cX3_init 38 = .ok (.putfield 24, 3) := by decide +kernel
theorem dX3_init_41 : decode cX3_init 41 = .ok (.aload_n 0, 1) := by decide +kernel
theorem dX3_init_42 : decode cX3_init 42 = .ok (.bipush 6, 2) := by decide +kernel
theorem dX3_init_44 : decode cX3_init 44 = .ok (.newarray .int, 2) := by decide +kernel
theorem dX3_init_46 : decode cX3_init 46 = .ok (.putfield 27, 3) := by decide +kernel
theorem dX3_init_49 : decode cX3_init 49 = .ok (.return_, 1) := by decide +kernel
theorem dX3_clear_0 : decode cX3_clear 0 = .ok (.iconst 0, 1) := by decide +kernel
theorem dX3_clear_1 : decode cX3_clear 1 = .ok (.istore_n 1, 1) := by decide +kernel
theorem dX3_clear_2 : decode cX3_clear 2 = .ok (.iload_n 1, 1) := by decide +kernel
theorem dX3_clear_3 : decode cX3_clear 3 = .ok (.iconst 5, 1) := by decide +kernel
theorem dX3_clear_4 : decode cX3_clear 4 = .ok (.if_icmp .ge 36, 3) := by decide +kernel
theorem dX3_clear_7 : decode cX3_clear 7 = .ok (.aload_n 0, 1) := by decide +kernel
theorem dX3_clear_8 : decode cX3_clear 8 = .ok (.getfield 9, 3) := by decide +kernel
theorem dX3_clear_11 : decode cX3_clear 11 = .ok (.iload_n 1, 1) := by decide +kernel
theorem dX3_clear_12 : decode cX3_clear 12 = .ok (.iconst 0, 1) := by decide +kernel
theorem dX3_clear_13 : decode cX3_clear 13 = .ok (.invokestatic 30, 3) := by decide +kernel
theorem dX3_clear_16 : decode cX3_clear 16 = .ok (.aload_n 0, 1) := by decide +kernel
theorem dX3_clear_17 : decode cX3_clear 17 = .ok (.getfield 15, 3) := by decide +kernel
theorem dX3_clear_20 : decode cX3_clear 20 = .ok (.iload_n 1, 1) := by decide +kernel
theorem dX3_clear_21 : decode cX3_clear 21 = .ok (.iconst 0, 1) := by decide +kernel
theorem dX3_clear_22 : decode cX3_clear 22 = .ok (.invokestatic 30, 3) := by decide +kernel
theorem dX3_clear_25 : decode cX3_clear 25 = .ok (.aload_n 0, 1) := by decide +kernel
theorem dX3_clear_26 : decode cX3_clear 26 = .ok (.getfield 18, 3) := by decide +kernel
theorem dX3_clear_29 : decode cX3_clear 29 = .ok (.iload_n 1, 1) := by decide +kernel
theorem dX3_clear_30 : decode cX3_clear 30 = .ok (.iconst 0, 1) := by decide +kernel
theorem dX3_clear_31 : decode cX3_clear 31 = .ok (.invokestatic 30, 3) := by decide +kernel
theorem dX3_clear_34 : decode cX3_clear 34 = .ok (.iinc 1 1, 3) := by decide +kernel
theorem dX3_clear_37 : decode cX3_clear 37 = .ok (.goto (-35), 3) := by decide +kernel
theorem dX3_clear_40 : decode cX3_clear 40 = .ok (.aload_n 0, 1) := by decide +kernel
theorem dX3_clear_41 : decode cX3_clear 41 = .ok (.iconst 0, 1) := by decide +kernel
theorem dX3_clear_42 : decode cX3_clear 42 = .ok (.putfield 34, 3) := by decide +kernel
theorem dX3_clear_45 : decode cX3_clear 45 = .ok (.aload_n 0, 1) := by decide +kernel
theorem dX3_clear_46 : decode cX3_clear 46 = .ok (.iconst 0, 1) := by decide +kernel
theorem dX3_clear_47 : decode cX3_clear 47 = .ok (.putfield 38, 3) := by decide +kernel
theorem dX3_clear_50 : decode cX3_clear 50 = .ok (.aload_n 0, 1) := by decide +kernel
theorem dX3_clear_51 : decode cX3_clear 51 = .ok (.iconst 0, 1) := by decide +kernel
theorem dX3_clear_52 : decode cX3_clear 52 = .ok (.putfield 41, 3) := by decide +kernel
theorem dX3_clear_55 : decode cX3_clear 55 = .ok (.aload_n 0, 1) := by decide +kernel
theorem dX3_clear_56 : decode cX3_clear 56 = .ok (.iconst 0, 1) := by decide +kernel
theorem dX3_clear_57 : decode cX3_clear 57 = .ok (.putfield 44, 3) := by decide +kernel
theorem dX3_clear_60 : decode cX3_clear 60 = .ok (.return_, 1) := by decide +kernel
theorem dX3_copy_0 : decode cX3_copy 0 = .ok (.aload_n 1, 1) := by decide +kernel
theorem dX3_copy_1 : decode cX3_copy 1 = .ok (.ifnonnull 4, 3) := by decide +kernel
theorem dX3_copy_4 : decode cX3_copy 4 = .ok (.return_, 1) := by decide +kernel
theorem dX3_copy_5 : decode cX3_copy 5 = .ok (.iconst 0, 1) := by decide +kernel
theorem dX3_copy_6 : decode cX3_copy 6 = .ok (.istore_n 2, 1) := by decide +kernel
theorem dX3_copy_7 : decode cX3_copy 7 = .ok (.iload_n 2, 1) := by decide +kernel
theorem dX3_copy_8 : decode cX3_copy 8 = .ok (.iconst 5, 1) := by decide +kernel
theorem dX3_copy_9 : decode cX3_copy 9 = .ok (.if_icmp .ge 57, 3) := by decide +kernel
theorem dX3_copy_12 : decode cX3_copy 12 = .ok (.aload_n 0, 1) := by decide +kernel
theorem dX3_copy_13 : decode cX3_copy 13 = .ok (.getfield 9, 3) := by decide +kernel
theorem dX3_copy_16 : decode cX3_copy 16 = .ok (.iload_n 2, 1) := by decide +kernel
theorem dX3_copy_17 : decode cX3_copy 17 = .ok (.aload_n 1, 1) := by decide +kernel
theorem dX3_copy_18 : decode cX3_copy 18 = .ok (.getfield 9, 3) := by decide +kernel
theorem dX3_copy_21 : decode cX3_copy 21 = .ok (.iload_n 2, 1) := by decide +kernel
theorem dX3_copy_22 : decode cX3_copy 22 = .ok (.invokestatic 47, 3) := by decide +kernel
theorem dX3_copy_25 : decode cX3_copy 25 = .ok (.invokestatic 30, 3) := by decide +kernel
theorem dX3_copy_28 : decode cX3_copy 28 = .ok (.aload_n 0, 1) := by decide +kernel
theorem dX3_copy_29 : decode cX3_copy 29 = .ok (.getfield 15, 3) := by decide +kernel
theorem dX3_copy_32 : decode cX3_copy 32 = .ok (.iload_n 2, 1) := by decide +kernel
theorem dX3_copy_33 : decode cX3_copy 33 = .ok (.aload_n 1, 1) := by decide +kernel
theorem dX3_copy_34 : decode cX3_copy 34 = .ok (.getfield 15, 3) := by decide +kernel
theorem dX3_copy_37 : decode cX3_copy 37 = .ok (.iload_n 2, 1) := by decide +kernel
theorem dX3_copy_38 : decode cX3_copy 38 = .ok (.invokestatic 47, 3) := by decide +kernel
theorem dX3_copy_41 : decode cX3_copy 41 = .ok (.invokestatic 30, 3) := by decide +kernel
theorem dX3_copy_44 : decode cX3_copy 44 = .ok (.aload_n 0, 1) := by decide +kernel
theorem dX3_copy_45 : decode cX3_copy 45 = .ok (.getfield 18, 3) := by decide +kernel
theorem dX3_copy_48 : decode cX3_copy 48 = .ok (.iload_n 2, 1) := by decide +kernel
theorem dX3_copy_49 : decode cX3_copy 49 = .ok (.aload_n 1, 1) := by decide +kernel
theorem dX3_copy_50 : decode cX3_copy 50 = .ok (.getfield 18, 3) := by decide +kernel
theorem dX3_copy_53 : decode cX3_copy 53 = .ok (.iload_n 2, 1) := by decide +kernel
theorem dX3_copy_54 : decode cX3_copy 54 = .ok (.invokestatic 47, 3) := by decide +kernel
theorem dX3_copy_57 : decode cX3_copy 57 = .ok (.invokestatic 30, 3) := by decide +kernel
theorem dX3_copy_60 : decode cX3_copy 60 = .ok (.iinc 2 1, 3) := by decide +kernel
theorem dX3_copy_63 : decode cX3_copy 63 = .ok (.goto (-56), 3) := by decide +kernel
theorem dX3_copy_66 : decode cX3_copy 66 = .ok (.iconst 0, 1) := by decide +kernel
theorem dX3_copy_67 : decode cX3_copy 67 = .ok (.istore_n 2, 1) := by decide +kernel
theorem dX3_copy_68 : decode cX3_copy 68 = .ok (.iload_n 2, 1) := by decide +kernel
theorem dX3_copy_69 : decode cX3_copy 69 = .ok (.bipush 6, 2) := by decide +kernel
theorem dX3_copy_71 : decode cX3_copy 71 = .ok (.if_icmp .ge 57, 3) := by decide +kernel
theorem dX3_copy_74 : decode cX3_copy 74 = .ok (.aload_n 0, 1) := by decide +kernel
theorem dX3_copy_75 : decode cX3_copy 75 = .ok (.getfield 21, 3) := by decide +kernel
theorem dX3_copy_78 : decode cX3_copy 78 = .ok (.iload_n 2, 1) := by decide +kernel
theorem dX3_copy_79 : decode cX3_copy 79 = .ok (.aload_n 1, 1) := by decide +kernel
theorem dX3_copy_80 : decode cX3_copy 80 = .ok (.getfield 21, 3) := by decide +kernel
theorem dX3_copy_83 : decode cX3_copy 83 = .ok (.iload_n 2, 1) := by decide +kernel
theorem dX3_copy_84 : decode cX3_copy 84 = .ok (.invokestatic 47, 3) := by decide +kernel
theorem dX3_copy_87 : decode cX3_copy 87 = .ok (.invokestatic 30, 3) := by decide +kernel
theorem dX3_copy_90 : decode cX3_copy 90 = .ok (.aload_n 0, 1) := by decide +kernel
theorem dX3_copy_91 : decode cX3_copy 91 = .ok (.getfield 24, 3) := by decide +kernel
theorem dX3_copy_94 : decode cX3_copy 94 = .ok (.iload_n 2, 1) := by decide +kernel
theorem dX3_copy_95 : decode cX3_copy 95 = .ok (.aload_n 1, 1) := by decide +kernel
theorem dX3_copy_96 : decode cX3_copy 96 = .ok (.getfield 24, 3) := by decide +kernel
theorem dX3_copy_99 : decode cX3_copy 99 = .ok (.iload_n 2, 1) := by decide +kernel
theorem dX3_copy_100 : decode cX3_copy 100 = .ok (.invokestatic 47, 3) := by decide +kernel
theorem dX3_copy_103 : decode cX3_copy 103 = .ok (.invokestatic 30, 3) := by decide +kernel
theorem dX3_copy_106 : decode cX3_copy 106 = .ok (.aload_n 0, 1) := by decide +kernel
theorem dX3_copy_107 : decode cX3_copy 107 = .ok (.getfield 27, 3) := by decide +kernel
theorem dX3_copy_110 : decode cX3_copy 110 = .ok (.iload_n 2, 1) := by decide +kernel
theorem dX3_copy_111 : decode cX3_copy 111 = .ok (.aload_n 1, 1) := by decide +kernel
theorem dX3_copy_112 : decode cX3_copy 112 = .ok (.getfield 27, 3) := by decide +kernel
theorem dX3_copy_115 : decode cX3_copy 115 = .ok (.iload_n 2, 1) := by decide +kernel
theorem dX3_copy_116 : decode cX3_copy 116 = .ok (.invokestatic 47, 3) := by decide +kernel
theorem dX3_copy_119 : decode cX3_copy 119 = .ok (.invokestatic 30, 3) := by decide +kernel
theorem dX3_copy_122 : decode cX3_copy 122 = .ok (.iinc 2 1, 3) := by decide +kernel
theorem dX3_copy_125 : decode cX3_copy 125 = .ok (.goto (-57), 3) := by decide +kernel
theorem dX3_copy_128 : decode cX3_copy 128 = .ok (.aload_n 0, 1) := by decide +kernel
theorem dX3_copy_129 : decode cX3_copy 129 = .ok (.aload_n 1, 1) := by decide +kernel
theorem dX3_copy_130 : decode cX3_copy 130 = .ok (.getfield 34, 3) := by decide +kernel
theorem dX3_copy_133 : decode cX3_copy 133 = .ok (.putfield 34, 3) := by decide +kernel
theorem dX3_copy_136 : decode cX3_copy 136 = .ok (.aload_n 0, 1) := by decide +kernel
theorem dX3_copy_137 : decode cX3_copy 137 = .ok (.aload_n 1, 1) := by decide +kernel
theorem dX3_copy_138 : decode cX3_copy 138 = .ok (.getfield 38, 3) := by decide +kernel
theorem dX3_copy_141 : decode cX3_copy 141 = .ok (.putfield 38, 3) := by decide +kernel
theorem dX3_copy_144 : decode cX3_copy 144 = .ok (.aload_n 0, 1) := by decide +kernel
theorem dX3_copy_145 : decode cX3_copy 145 = .ok (.aload_n 1, 1) := by decide +kernel
theorem dX3_copy_146 : decode cX3_copy 146 = .ok (.getfield 41, 3) := by decide +kernel
theorem dX3_copy_149 : decode cX3_copy 149 = .ok (.putfield 41, 3) := by decide +kernel
theorem dX3_copy_152 : decode cX3_copy 152 = .ok (.aload_n 0, 1) := by decide +kernel
theorem dX3_copy_153 : decode cX3_copy 153 = .ok (.aload_n 1, 1) := by decide +kernel
theorem dX3_copy_154 : decode cX3_copy 154 = .ok (.getfield 44, 3) := by decide +kernel
theorem dX3_copy_157 : decode cX3_copy 157 = .ok (.putfield 44, 3) := by decide +kernel
theorem dX3_copy_160 : decode cX3_copy 160 = .ok (.return_, 1) := by decide +kernel
theorem dX3_setFoe_0 : decode cX3_setFoe 0 = .ok (.aload_n 0, 1) := by decide +kernel
theorem dX3_setFoe_1 : decode cX3_setFoe 1 = .ok (.getfield 18, 3) := by decide +kernel
theorem dX3_setFoe_4 : decode cX3_setFoe 4 = .ok (.iload_n 1, 1) := by decide +kernel
theorem dX3_setFoe_5 : decode cX3_setFoe 5 = .ok (.invokestatic 47, 3) := by decide +kernel
theorem dX3_setFoe_8 : decode cX3_setFoe 8 = .ok (.iconst 1, 1) := by decide +kernel
theorem dX3_setFoe_9 : decode cX3_setFoe 9 = .ok (.iload_n 2, 1) := by decide +kernel
theorem dX3_setFoe_10 : decode cX3_setFoe 10 = .ok (.ishl, 1) := by decide +kernel
theorem dX3_setFoe_11 : decode cX3_setFoe 11 = .ok (.iconst (-1), 1) := by decide +kernel
theorem dX3_setFoe_12 : decode cX3_setFoe 12 = .ok (.ixor, 1) := by decide +kernel
theorem dX3_setFoe_13 : decode cX3_setFoe 13 = .ok (.iand, 1) := by decide +kernel
theorem dX3_setFoe_14 : decode cX3_setFoe 14 = .ok (.istore 4, 2) := by decide +kernel
theorem dX3_setFoe_16 : decode cX3_setFoe 16 = .ok (.aload_n 0, 1) := by decide +kernel
theorem dX3_setFoe_17 : decode cX3_setFoe 17 = .ok (.getfield 18, 3) := by decide +kernel
theorem dX3_setFoe_20 : decode cX3_setFoe 20 = .ok (.iload_n 1, 1) := by decide +kernel
theorem dX3_setFoe_21 : decode cX3_setFoe 21 = .ok (.iload_n 3, 1) := by decide +kernel
theorem dX3_setFoe_22 : decode cX3_setFoe 22 = .ok (.ifCond .eq 12, 3) := by decide +kernel
theorem dX3_setFoe_25 : decode cX3_setFoe 25 = .ok (.iload 4, 2) := by decide +kernel
theorem dX3_setFoe_27 : decode cX3_setFoe 27 = .ok (.iconst 1, 1) := by decide +kernel
theorem dX3_setFoe_28 : decode cX3_setFoe 28 = .ok (.iload_n 2, 1) := by decide +kernel
theorem dX3_setFoe_29 : decode cX3_setFoe 29 = .ok (.ishl, 1) := by decide +kernel
theorem dX3_setFoe_30 : decode cX3_setFoe 30 = .ok (.ior, 1) := by decide +kernel
theorem dX3_setFoe_31 : decode cX3_setFoe 31 = .ok (.goto 5, 3) := by decide +kernel
theorem dX3_setFoe_34 : decode cX3_setFoe 34 = .ok (.iload 4, 2) := by decide +kernel
theorem dX3_setFoe_36 : decode cX3_setFoe 36 = .ok (.invokestatic 30, 3) := by decide +kernel
theorem dX3_setFoe_39 : decode cX3_setFoe 39 = .ok (.return_, 1) := by decide +kernel
theorem dX3_addHeard_0 : decode cX3_addHeard 0 = .ok (.aload_n 0, 1) := by decide +kernel
theorem dX3_addHeard_1 : decode cX3_addHeard 1 = .ok (.getfield 21, 3) := by decide +kernel
theorem dX3_addHeard_4 : decode cX3_addHeard 4 = .ok (.aload_n 0, 1) := by decide +kernel
theorem dX3_addHeard_5 : decode cX3_addHeard 5 = .ok (.getfield 38, 3) := by decide +kernel
theorem dX3_addHeard_8 : decode cX3_addHeard 8 = .ok (.iload_n 1, 1) := by decide +kernel
theorem dX3_addHeard_9 : decode cX3_addHeard 9 = .ok (.invokestatic 30, 3) := by decide +kernel
theorem dX3_addHeard_12 : decode cX3_addHeard 12 = .ok (.aload_n 0, 1) := by decide +kernel
theorem dX3_addHeard_13 : decode cX3_addHeard 13 = .ok (.getfield 24, 3) := by decide +kernel
theorem dX3_addHeard_16 : decode cX3_addHeard 16 = .ok (.aload_n 0, 1) := by decide +kernel
theorem dX3_addHeard_17 : decode cX3_addHeard 17 = .ok (.getfield 38, 3) := by decide +kernel
theorem dX3_addHeard_20 : decode cX3_addHeard 20 = .ok (.iload_n 2, 1) := by decide +kernel
theorem dX3_addHeard_21 : decode cX3_addHeard 21 = .ok (.invokestatic 30, 3) := by decide +kernel
theorem dX3_addHeard_24 : decode cX3_addHeard 24 = .ok (.aload_n 0, 1) := by decide +kernel
theorem dX3_addHeard_25 : decode cX3_addHeard 25 = .ok (.getfield 27, 3) := by decide +kernel
theorem dX3_addHeard_28 : decode cX3_addHeard 28 = .ok (.aload_n 0, 1) := by decide +kernel
theorem dX3_addHeard_29 : decode cX3_addHeard 29 = .ok (.getfield 38, 3) := by decide +kernel
theorem dX3_addHeard_32 : decode cX3_addHeard 32 = .ok (.iload_n 3, 1) := by decide +kernel
theorem dX3_addHeard_33 : decode cX3_addHeard 33 = .ok (.ifCond .eq 7, 3) := by decide +kernel
theorem dX3_addHeard_36 : decode cX3_addHeard 36 = .ok (.iconst 1, 1) := by decide +kernel
theorem dX3_addHeard_37 : decode cX3_addHeard 37 = .ok (.goto 4, 3) := by decide +kernel
theorem dX3_addHeard_40 : decode cX3_addHeard 40 = .ok (.iconst 0, 1) := by decide +kernel
theorem dX3_addHeard_41 : decode cX3_addHeard 41 = .ok (.invokestatic 30, 3) := by decide +kernel
theorem dX3_addHeard_44 : decode cX3_addHeard 44 = .ok (.aload_n 0, 1) := by decide +kernel
theorem dX3_addHeard_45 : decode cX3_addHeard 45 = .ok (.dup, 1) := by decide +kernel
theorem dX3_addHeard_46 : decode cX3_addHeard 46 = .ok (.getfield 38, 3) := by decide +kernel
theorem dX3_addHeard_49 : decode cX3_addHeard 49 = .ok (.iconst 1, 1) := by decide +kernel
theorem dX3_addHeard_50 : decode cX3_addHeard 50 = .ok (.iadd, 1) := by decide +kernel
theorem dX3_addHeard_51 : decode cX3_addHeard 51 = .ok (.putfield 38, 3) := by decide +kernel
theorem dX3_addHeard_54 : decode cX3_addHeard 54 = .ok (.return_, 1) := by decide +kernel
theorem dX4_init_0 : decode cX4_init 0 = .ok (.aload_n 0, 1) := by decide +kernel
theorem dX4_init_1 : decode cX4_init 1 = .ok (.invokespecial 3, 3) := by decide +kernel
theorem dX4_init_4 : decode cX4_init 4 = .ok (.return_, 1) := by decide +kernel
theorem dX4_play_0 : decode cX4_play 0 = .ok (.aload_n 0, 1) := by decide +kernel
theorem dX4_play_1 : decode cX4_play 1 = .ok (.iload_n 3, 1) := by decide +kernel
theorem dX4_play_2 : decode cX4_play 2 = .ok (.putfield 9, 3) := by decide +kernel
theorem dX4_play_5 : decode cX4_play 5 = .ok (.aload_n 0, 1) := by decide +kernel
theorem dX4_play_6 : decode cX4_play 6 = .ok (.iconst 0, 1) := by decide +kernel
theorem dX4_play_7 : decode cX4_play 7 = .ok (.putfield 15, 3) := by decide +kernel
theorem dX4_play_10 : decode cX4_play 10 = .ok (.aload_n 1, 1) := by decide +kernel
theorem dX4_play_11 : decode cX4_play 11 = .ok (.getfield 18, 3) := by decide +kernel
theorem dX4_play_14 : decode cX4_play 14 = .ok (.getfield 24, 3) := by decide +kernel
theorem dX4_play_17 : decode cX4_play 17 = .ok (.istore 4, 2) := by decide +kernel
theorem dX4_play_19 : decode cX4_play 19 = .ok (.iconst 0, 1) := by decide +kernel
theorem dX4_play_20 : decode cX4_play 20 = .ok (.istore 5, 2) := by decide +kernel
theorem dX4_play_22 : decode cX4_play 22 = .ok (.iload 5, 2) := by decide +kernel
theorem dX4_play_24 : decode cX4_play 24 = .ok (.iload_n 2, 1) := by decide +kernel
theorem dX4_play_25 : decode cX4_play 25 = .ok (.if_icmp .ge 56, 3) := by decide +kernel
theorem dX4_play_28 : decode cX4_play 28 = .ok (.aload_n 0, 1) := by decide +kernel
theorem dX4_play_29 : decode cX4_play 29 = .ok (.aload_n 1, 1) := by decide +kernel
theorem dX4_play_30 : decode cX4_play 30 = .ok (.getfield 29, 3) := by decide +kernel
theorem dX4_play_33 : decode cX4_play 33 = .ok (.invokevirtual 32, 3) := by decide +kernel
theorem dX4_play_36 : decode cX4_play 36 = .ok (.istore 6, 2) := by decide +kernel
theorem dX4_play_38 : decode cX4_play 38 = .ok (.iload 4, 2) := by decide +kernel
theorem dX4_play_40 : decode cX4_play 40 = .ok (.iload 6, 2) := by decide +kernel
theorem dX4_play_42 : decode cX4_play 42 = .ok (.aload_n 0, 1) := by decide +kernel
theorem dX4_play_43 : decode cX4_play 43 = .ok (.iconst 4, 1) := by decide +kernel
theorem dX4_play_44 : decode cX4_play 44 = .ok (.invokevirtual 32, 3) := by decide +kernel
theorem dX4_play_47 : decode cX4_play 47 = .ok (.invokestatic 36, 3) := by decide +kernel
theorem dX4_play_50 : decode cX4_play 50 = .ok (.istore 4, 2) := by decide +kernel
theorem dX4_play_52 : decode cX4_play 52 = .ok (.aload_n 0, 1) := by decide +kernel
theorem dX4_play_53 : decode cX4_play 53 = .ok (.aload_n 1, 1) := by decide +kernel
theorem dX4_play_54 : decode cX4_play 54 = .ok (.iload 4, 2) := by decide +kernel
theorem dX4_play_56 : decode cX4_play 56 = .ok (.invokevirtual 40, 3) := by decide +kernel
theorem dX4_play_59 : decode cX4_play 59 = .ok (.putfield 43, 3) := by decide +kernel
theorem dX4_play_62 : decode cX4_play 62 = .ok (.aload_n 0, 1) := by decide +kernel
theorem dX4_play_63 : decode cX4_play 63 = .ok (.dup, 1) := by decide +kernel
theorem dX4_play_64 : decode cX4_play 64 = .ok (.getfield 15, 3) := by decide +kernel
theorem dX4_play_67 : decode cX4_play 67 = .ok (.aload_n 0, 1) := by decide +kernel
theorem dX4_play_68 : decode cX4_play 68 = .ok (.getfield 43, 3) := by decide +kernel
theorem dX4_play_71 : decode cX4_play 71 = .ok (.iadd, 1) := by decide +kernel
theorem dX4_play_72 : decode cX4_play 72 = .ok (.putfield 15, 3) := by decide +kernel
theorem dX4_play_75 : decode cX4_play 75 = .ok (.iinc 5 1, 3) := by decide +kernel
theorem dX4_play_78 : decode cX4_play 78 = .ok (.goto (-56), 3) := by decide +kernel
theorem dX4_play_81 : decode cX4_play 81 = .ok (.return_, 1) := by decide +kernel
theorem dX4_draw_0 : decode cX4_draw 0 = .ok (.aload_n 0, 1) := by decide +kernel
theorem dX4_draw_1 : decode cX4_draw 1 = .ok (.ldc2_w 46, 3) := by decide +kernel
theorem dX4_draw_4 : decode cX4_draw 4 = .ok (.aload_n 0, 1) := by decide +kernel
theorem dX4_draw_5 : decode cX4_draw 5 = .ok (.getfield 9, 3) := by decide +kernel
theorem dX4_draw_8 : decode cX4_draw 8 = .ok (.i2l, 1) := by decide +kernel
theorem dX4_draw_9 : decode cX4_draw 9 = .ok (.lmul, 1) := by decide +kernel
theorem dX4_draw_10 : decode cX4_draw 10 = .ok (.ldc2_w 48, 3) := by decide +kernel
theorem dX4_draw_13 : decode cX4_draw 13 = .ok (.ladd, 1) := by decide +kernel
theorem dX4_draw_14 : decode cX4_draw 14 = .ok (.ldc2_w 50, 3) := by decide +kernel
theorem dX4_draw_17 : decode cX4_draw 17 = .ok (.land, 1) := by decide +kernel
theorem dX4_draw_18 : decode cX4_draw 18 = .ok (.l2i, 1) := by decide +kernel
theorem dX4_draw_19 : decode cX4_draw 19 = .ok (.putfield 9, 3) := by decide +kernel
theorem dX4_draw_22 : decode cX4_draw 22 = .ok (.iload_n 1, 1) := by decide +kernel
theorem dX4_draw_23 : decode cX4_draw 23 = .ok (.ifCond .le 15, 3) := by decide +kernel
theorem dX4_draw_26 : decode cX4_draw 26 = .ok (.aload_n 0, 1) := by decide +kernel
theorem dX4_draw_27 : decode cX4_draw 27 = .ok (.getfield 9, 3) := by decide +kernel
theorem dX4_draw_30 : decode cX4_draw 30 = .ok (.bipush 16, 2) := by decide +kernel
theorem dX4_draw_32 : decode cX4_draw 32 = .ok (.ishr, 1) := by decide +kernel
theorem dX4_draw_33 : decode cX4_draw 33 = .ok (.iload_n 1, 1) := by decide +kernel
theorem dX4_draw_34 : decode cX4_draw 34 = .ok (.irem, 1) := by decide +kernel
theorem dX4_draw_35 : decode cX4_draw 35 = .ok (.goto 4, 3) := by decide +kernel
theorem dX4_draw_38 : decode cX4_draw 38 = .ok (.iconst 0, 1) := by decide +kernel
theorem dX4_draw_39 : decode cX4_draw 39 = .ok (.ireturn, 1) := by decide +kernel
theorem dX5_init_0 : decode cX5_init 0 = .ok (.aload_n 0, 1) := by decide +kernel
theorem dX5_init_1 : decode cX5_init 1 = .ok (.invokespecial 3, 3) := by decide +kernel
theorem dX5_init_4 : decode cX5_init 4 = .ok (.aload_n 0, 1) := by decide +kernel
theorem dX5_init_5 : decode cX5_init 5 = .ok (.bipush 21, 2) := by decide +kernel
theorem dX5_init_7 : decode cX5_init 7 = .ok (.newarray .int, 2) := by decide +kernel
theorem dX5_init_9 : decode cX5_init 9 = .ok (.putfield 9, 3) := by decide +kernel
theorem dX5_init_12 : decode cX5_init 12 = .ok (.return_, 1) := by decide +kernel
theorem dX5_add_0 : decode cX5_add 0 = .ok (.aload_n 0, 1) := by decide +kernel
theorem dX5_add_1 : decode cX5_add 1 = .ok (.getfield 15, 3) := by decide +kernel
theorem dX5_add_4 : decode cX5_add 4 = .ok (.bipush 21, 2) := by decide +kernel
theorem dX5_add_6 : decode cX5_add 6 = .ok (.if_icmp .lt 5, 3) := by decide +kernel
theorem dX5_add_9 : decode cX5_add 9 = .ok (.iconst 0, 1) := by decide +kernel
theorem dX5_add_10 : decode cX5_add 10 = .ok (.ireturn, 1) := by decide +kernel
theorem dX5_add_11 : decode cX5_add 11 = .ok (.aload_n 0, 1) := by decide +kernel
theorem dX5_add_12 : decode cX5_add 12 = .ok (.getfield 9, 3) := by decide +kernel
theorem dX5_add_15 : decode cX5_add 15 = .ok (.aload_n 0, 1) := by decide +kernel
theorem dX5_add_16 : decode cX5_add 16 = .ok (.getfield 15, 3) := by decide +kernel
theorem dX5_add_19 : decode cX5_add 19 = .ok (.iload_n 1, 1) := by decide +kernel
theorem dX5_add_20 : decode cX5_add 20 = .ok (.invokestatic 19, 3) := by decide +kernel
theorem dX5_add_23 : decode cX5_add 23 = .ok (.aload_n 0, 1) := by decide +kernel
theorem dX5_add_24 : decode cX5_add 24 = .ok (.dup, 1) := by decide +kernel
theorem dX5_add_25 : decode cX5_add 25 = .ok (.getfield 15, 3) := by decide +kernel
theorem dX5_add_28 : decode cX5_add 28 = .ok (.iconst 1, 1) := by decide +kernel
theorem dX5_add_29 : decode cX5_add 29 = .ok (.iadd, 1) := by decide +kernel
theorem dX5_add_30 : decode cX5_add 30 = .ok (.putfield 15, 3) := by decide +kernel
theorem dX5_add_33 : decode cX5_add 33 = .ok (.iconst 1, 1) := by decide +kernel
theorem dX5_add_34 : decode cX5_add 34 = .ok (.ireturn, 1) := by decide +kernel
theorem dX5_isTown_0 : decode cX5_isTown 0 = .ok (.aload_n 0, 1) := by decide +kernel
theorem dX5_isTown_1 : decode cX5_isTown 1 = .ok (.invokevirtual 23, 3) := by decide +kernel
theorem dX5_isTown_4 : decode cX5_isTown 4 = .ok (.ifCond .eq 18, 3) := by decide +kernel
theorem dX5_isTown_7 : decode cX5_isTown 7 = .ok (.aload_n 0, 1) := by decide +kernel
theorem dX5_isTown_8 : decode cX5_isTown 8 = .ok (.invokevirtual 27, 3) := by decide +kernel
theorem dX5_isTown_11 : decode cX5_isTown 11 = .ok (.aload_n 0, 1) := by decide +kernel
theorem dX5_isTown_12 : decode cX5_isTown 12 = .ok (.getfield 15, 3) := by decide +kernel
theorem dX5_isTown_15 : decode cX5_isTown 15 = .ok (.if_icmp .ne 7, 3) := by decide +kernel
theorem dX5_isTown_18 : decode cX5_isTown 18 = .ok (.iconst 1, 1) := by decide +kernel
theorem dX5_isTown_19 : decode cX5_isTown 19 = .ok (.goto 4, 3) := by decide +kernel
theorem dX5_isTown_22 : decode cX5_isTown 22 = .ok (.iconst 0, 1) := by decide +kernel
theorem dX5_isTown_23 : decode cX5_isTown 23 = .ok (.ireturn, 1) := by decide +kernel
theorem dX5_people_0 : decode cX5_people 0 = .ok (.aload_n 0, 1) := by decide +kernel
theorem dX5_people_1 : decode cX5_people 1 = .ok (.getfield 15, 3) := by decide +kernel
theorem dX5_people_4 : decode cX5_people 4 = .ok (.iconst 1, 1) := by decide +kernel
theorem dX5_people_5 : decode cX5_people 5 = .ok (.iadd, 1) := by decide +kernel
theorem dX5_people_6 : decode cX5_people 6 = .ok (.iconst 4, 1) := by decide +kernel
theorem dX5_people_7 : decode cX5_people 7 = .ok (.idiv, 1) := by decide +kernel
theorem dX5_people_8 : decode cX5_people 8 = .ok (.ireturn, 1) := by decide +kernel
theorem dX5_kindAt_0 : decode cX5_kindAt 0 = .ok (.ldc 31, 2) := by decide +kernel
theorem dX5_kindAt_2 : decode cX5_kindAt 2 = .ok (.aload_n 0, 1) := by decide +kernel
theorem dX5_kindAt_3 : decode cX5_kindAt 3 = .ok (.getfield 9, 3) := by decide +kernel
theorem dX5_kindAt_6 : decode cX5_kindAt 6 = .ok (.iconst 4, 1) := by decide +kernel
theorem dX5_kindAt_7 : decode cX5_kindAt 7 = .ok (.iload_n 1, 1) := by decide +kernel
theorem dX5_kindAt_8 : decode cX5_kindAt 8 = .ok (.imul, 1) := by decide +kernel
theorem dX5_kindAt_9 : decode cX5_kindAt 9 = .ok (.invokestatic 33, 3) := by decide +kernel
theorem dX5_kindAt_12 : decode cX5_kindAt 12 = .ok (.i2c, 1) := by decide +kernel
theorem dX5_kindAt_13 : decode cX5_kindAt 13 = .ok (.invokevirtual 37, 3) := by decide +kernel
theorem dX5_kindAt_16 : decode cX5_kindAt 16 = .ok (.ireturn, 1) := by decide +kernel
theorem dX5_digitAt_0 : decode cX5_digitAt 0 = .ok (.aload_n 0, 1) := by decide +kernel
theorem dX5_digitAt_1 : decode cX5_digitAt 1 = .ok (.getfield 9, 3) := by decide +kernel
theorem dX5_digitAt_4 : decode cX5_digitAt 4 = .ok (.iload_n 1, 1) := by decide +kernel
theorem dX5_digitAt_5 : decode cX5_digitAt 5 = .ok (.invokestatic 33, 3) := by decide +kernel
theorem dX5_digitAt_8 : decode cX5_digitAt 8 = .ok (.bipush 48, 2) := by decide +kernel
theorem dX5_digitAt_10 : decode cX5_digitAt 10 = .ok (.isub, 1) := by decide +kernel
theorem dX5_digitAt_11 : decode cX5_digitAt 11 = .ok (.ireturn, 1) := by decide +kernel
theorem dX5_firstFault_0 : decode cX5_firstFault 0 = .ok (.iconst 0, 1) := by decide +kernel
theorem dX5_firstFault_1 : decode cX5_firstFault 1 = .ok (.istore_n 1, 1) := by decide +kernel
theorem dX5_firstFault_2 : decode cX5_firstFault 2 = .ok (.iload_n 1, 1) := by decide +kernel
theorem dX5_firstFault_3 : decode cX5_firstFault 3 = .ok (.aload_n 0, 1) := by decide +kernel
theorem dX5_firstFault_4 : decode cX5_firstFault 4 = .ok (.getfield 15, 3) := by decide +kernel
theorem dX5_firstFault_7 : decode cX5_firstFault 7 = .ok (.if_icmp .ge 19, 3) := by decide +kernel
theorem dX5_firstFault_10 : decode cX5_firstFault 10 = .ok (.aload_n 0, 1) := by decide +kernel
theorem dX5_firstFault_11 : decode cX5_firstFault 11 = .ok (.iload_n 1, 1) := by decide +kernel
theorem dX5_firstFault_12 : decode cX5_firstFault 12 = .ok (.invokevirtual 43, 3) := by decide +kernel
theorem dX5_firstFault_15 : decode cX5_firstFault 15 = .ok (.ifCond .ne 5, 3) := by decide +kernel
theorem dX5_firstFault_18 : decode cX5_firstFault 18 = .ok (.iload_n 1, 1) := by decide +kernel
theorem dX5_firstFault_19 : decode cX5_firstFault 19 = .ok (.ireturn, 1) := by decide +kernel
theorem dX5_firstFault_20 : decode cX5_firstFault 20 = .ok (.iinc 1 1, 3) := by decide +kernel
theorem dX5_firstFault_23 : decode cX5_firstFault 23 = .ok (.goto (-21), 3) := by decide +kernel
theorem dX5_firstFault_26 : decode cX5_firstFault 26 = .ok (.aload_n 0, 1) := by decide +kernel
theorem dX5_firstFault_27 : decode cX5_firstFault 27 = .ok (.invokevirtual 23, 3) := by decide +kernel
theorem dX5_firstFault_30 : decode cX5_firstFault 30 = .ok (.ifCond .eq 10, 3) := by decide +kernel
theorem dX5_firstFault_33 : decode cX5_firstFault 33 = .ok (.aload_n 0, 1) := by decide +kernel
theorem dX5_firstFault_34 : decode cX5_firstFault 34 = .ok (.invokevirtual 47, 3) := by decide +kernel
theorem dX5_firstFault_37 : decode cX5_firstFault 37 = .ok (.goto 7, 3) := by decide +kernel
theorem dX5_firstFault_40 : decode cX5_firstFault 40 = .ok (.aload_n 0, 1) := by decide +kernel
theorem dX5_firstFault_41 : decode cX5_firstFault 41 = .ok (.getfield 15, 3) := by decide +kernel
theorem dX5_firstFault_44 : decode cX5_firstFault 44 = .ok (.ireturn, 1) := by decide +kernel
theorem dX5_isWhole_0 : decode cX5_isWhole 0 = .ok (.aload_n 0, 1) := by decide +kernel
theorem dX5_isWhole_1 : decode cX5_isWhole 1 = .ok (.getfield 15, 3) := by decide +kernel
theorem dX5_isWhole_4 : decode cX5_isWhole 4 = .ok (.bipush 7, 2) := by decide +kernel
theorem dX5_isWhole_6 : decode cX5_isWhole 6 = .ok (.if_icmp .lt 26, 3) := by decide +kernel
theorem dX5_isWhole_9 : decode cX5_isWhole 9 = .ok (.aload_n 0, 1) := by decide +kernel
theorem dX5_isWhole_10 : decode cX5_isWhole 10 = .ok (.getfield 15, 3) := by decide +kernel
theorem dX5_isWhole_13 : decode cX5_isWhole 13 = .ok (.bipush 19, 2) := by decide +kernel
theorem dX5_isWhole_15 : decode cX5_isWhole 15 = .ok (.if_icmp .gt 17, 3) := by decide +kernel
theorem dX5_isWhole_18 : decode cX5_isWhole 18 = .ok (.aload_n 0, 1) := by decide +kernel
theorem dX5_isWhole_19 : decode cX5_isWhole 19 = .ok (.getfield 15, 3) := by decide +kernel
theorem dX5_isWhole_22 : decode cX5_isWhole 22 = .ok (.iconst 3, 1) := by decide +kernel
theorem dX5_isWhole_23 : decode cX5_isWhole 23 = .ok (.iand, 1) := by decide +kernel
theorem dX5_isWhole_24 : decode cX5_isWhole 24 = .ok (.iconst 3, 1) := by decide +kernel
theorem dX5_isWhole_25 : decode cX5_isWhole 25 = .ok (.if_icmp .ne 7, 3) := by decide +kernel
theorem dX5_isWhole_28 : decode cX5_isWhole 28 = .ok (.iconst 1, 1) := by decide +kernel
theorem dX5_isWhole_29 : decode cX5_isWhole 29 = .ok (.goto 4, 3) := by decide +kernel
theorem dX5_isWhole_32 : decode cX5_isWhole 32 = .ok (.iconst 0, 1) := by decide +kernel
theorem dX5_isWhole_33 : decode cX5_isWhole 33 = .ok (.ireturn, 1) := by decide +kernel
theorem dX5_fits_0 : decode cX5_fits 0 = .ok (.iload_n 1, 1) := by decide +kernel
theorem dX5_fits_1 : decode cX5_fits 1 = .ok (.bipush 19, 2) := by decide +kernel
theorem dX5_fits_3 : decode cX5_fits 3 = .ok (.if_icmp .lt 5, 3) := by decide +kernel
theorem dX5_fits_6 : decode cX5_fits 6 = .ok (.iconst 0, 1) := by decide +kernel
theorem dX5_fits_7 : decode cX5_fits 7 = .ok (.ireturn, 1) := by decide +kernel
theorem dX5_fits_8 : decode cX5_fits 8 = .ok (.iload_n 1, 1) := by decide +kernel
theorem dX5_fits_9 : decode cX5_fits 9 = .ok (.iconst 3, 1) := by decide +kernel
theorem dX5_fits_10 : decode cX5_fits 10 = .ok (.iand, 1) := by decide +kernel
theorem dX5_fits_11 : decode cX5_fits 11 = .ok (.lookupswitch 60 #[(0, 25), (3, 41)], 25) := by decide +kernel
theorem dX5_fits_36 : decode cX5_fits 36 = .ok (.aload_n 0, 1) := by decide +kernel
theorem dX5_fits_37 : decode cX5_fits 37 = .ok (.iload_n 1, 1) := by decide +kernel
theorem dX5_fits_38 : decode cX5_fits 38 = .ok (.iconst 4, 1) := by decide +kernel
theorem dX5_fits_39 : decode cX5_fits 39 = .ok (.idiv, 1) := by decide +kernel
theorem dX5_fits_40 : decode cX5_fits 40 = .ok (.invokevirtual 50, 3) := by decide +kernel
theorem dX5_fits_43 : decode cX5_fits 43 = .ok (.ifCond .lt 7, 3) := by decide +kernel
theorem dX5_fits_46 : decode cX5_fits 46 = .ok (.iconst 1, 1) := by decide +kernel
theorem dX5_fits_47 : decode cX5_fits 47 = .ok (.goto 4, 3) := by decide +kernel
theorem dX5_fits_50 : decode cX5_fits 50 = .ok (.iconst 0, 1) := by decide +kernel
theorem dX5_fits_51 : decode cX5_fits 51 = .ok (.ireturn, 1) := by decide +kernel
theorem dX5_fits_52 : decode cX5_fits 52 = .ok (.aload_n 0, 1) := by decide +kernel
theorem dX5_fits_53 : decode cX5_fits 53 = .ok (.getfield 9, 3) := by decide +kernel
theorem dX5_fits_56 : decode cX5_fits 56 = .ok (.iload_n 1, 1) := by decide +kernel
theorem dX5_fits_57 : decode cX5_fits 57 = .ok (.invokestatic 33, 3) := by decide +kernel
theorem dX5_fits_60 : decode cX5_fits 60 = .ok (.bipush 44, 2) := by decide +kernel
theorem dX5_fits_62 : decode cX5_fits 62 = .ok (.if_icmp .ne 7, 3) := by decide +kernel
theorem dX5_fits_65 : decode cX5_fits 65 = .ok (.iconst 1, 1) := by decide +kernel
theorem dX5_fits_66 : decode cX5_fits 66 = .ok (.goto 4, 3) := by decide +kernel
theorem dX5_fits_69 : decode cX5_fits 69 = .ok (.iconst 0, 1) := by decide +kernel
theorem dX5_fits_70 : decode cX5_fits 70 = .ok (.ireturn, 1) := by decide +kernel
theorem dX5_fits_71 : decode cX5_fits 71 = .ok (.aload_n 0, 1) := by decide +kernel
theorem dX5_fits_72 : decode cX5_fits 72 = .ok (.iload_n 1, 1) := by decide +kernel
theorem dX5_fits_73 : decode cX5_fits 73 = .ok (.invokevirtual 53, 3) := by decide +kernel
theorem dX5_fits_76 : decode cX5_fits 76 = .ok (.ifCond .lt 16, 3) := by decide +kernel
theorem dX5_fits_79 : decode cX5_fits 79 = .ok (.aload_n 0, 1) := by decide +kernel
theorem dX5_fits_80 : decode cX5_fits 80 = .ok (.iload_n 1, 1) := by decide +kernel
theorem dX5_fits_81 : decode cX5_fits 81 = .ok (.invokevirtual 53, 3) := by decide +kernel
theorem dX5_fits_84 : decode cX5_fits 84 = .ok (.iconst 5, 1) := by decide +kernel
theorem dX5_fits_85 : decode cX5_fits 85 = .ok (.if_icmp .ge 7, 3) := by decide +kernel
theorem dX5_fits_88 : decode cX5_fits 88 = .ok (.iconst 1, 1) := by decide +kernel
theorem dX5_fits_89 : decode cX5_fits 89 = .ok (.goto 4, 3) := by decide +kernel
theorem dX5_fits_92 : decode cX5_fits 92 = .ok (.iconst 0, 1) := by decide +kernel
theorem dX5_fits_93 : decode cX5_fits 93 = .ok (.ireturn, 1) := by decide +kernel
theorem dX5_firstNobody_0 : decode cX5_firstNobody 0 = .ok (.aload_n 0, 1) := by decide +kernel
theorem dX5_firstNobody_1 : decode cX5_firstNobody 1 = .ok (.invokevirtual 56, 3) := by decide +kernel
theorem dX5_firstNobody_4 : decode cX5_firstNobody 4 = .ok (.istore_n 1, 1) := by decide +kernel
theorem dX5_firstNobody_5 : decode cX5_firstNobody 5 = .ok (.iconst 0, 1) := by decide +kernel
theorem dX5_firstNobody_6 : decode cX5_firstNobody 6 = .ok (.istore_n 2, 1) := by decide +kernel
theorem dX5_firstNobody_7 : decode cX5_firstNobody 7 = .ok (.iload_n 2, 1) := by decide +kernel
theorem dX5_firstNobody_8 : decode cX5_firstNobody 8 = .ok (.aload_n 0, 1) := by decide +kernel
theorem dX5_firstNobody_9 : decode cX5_firstNobody 9 = .ok (.getfield 15, 3) := by decide +kernel
theorem dX5_firstNobody_12 : decode cX5_firstNobody 12 = .ok (.if_icmp .ge 44, 3) := by decide +kernel
theorem dX5_firstNobody_15 : decode cX5_firstNobody 15 = .ok (.iload_n 2, 1) := by decide +kernel
theorem dX5_firstNobody_16 : decode cX5_firstNobody 16 = .ok (.iconst 3, 1) := by decide +kernel
theorem dX5_firstNobody_17 : decode cX5_firstNobody 17 = .ok (.iand, 1) := by decide +kernel
theorem dX5_firstNobody_18 : decode cX5_firstNobody 18 = .ok (.iconst 1, 1) := by decide +kernel
theorem dX5_firstNobody_19 : decode cX5_firstNobody 19 = .ok (.if_icmp .eq 10, 3) := by decide +kernel
theorem dX5_firstNobody_22 : decode cX5_firstNobody 22 = .ok (.iload_n 2, 1) := by decide +kernel
theorem dX5_firstNobody_23 : decode cX5_firstNobody 23 = .ok (.iconst 3, 1) := by decide +kernel
theorem dX5_firstNobody_24 : decode cX5_firstNobody 24 = .ok (.iand, 1) := by decide +kernel
theorem dX5_firstNobody_25 : decode cX5_firstNobody 25 = .ok (.iconst 2, 1) := by decide +kernel
theorem dX5_firstNobody_26 : decode cX5_firstNobody 26 = .ok (.if_icmp .ne 7, 3) := by decide +kernel
theorem dX5_firstNobody_29 : decode cX5_firstNobody 29 = .ok (.iconst 1, 1) := by decide +kernel
theorem dX5_firstNobody_30 : decode cX5_firstNobody 30 = .ok (.goto 4, 3) := by decide +kernel
theorem dX5_firstNobody_33 : decode cX5_firstNobody 33 = .ok (.iconst 0, 1) := by decide +kernel
theorem dX5_firstNobody_34 : decode cX5_firstNobody 34 = .ok (.istore_n 3, 1) := by decide +kernel
theorem dX5_firstNobody_35 : decode cX5_firstNobody 35 = .ok (.iload_n 3, 1) := by decide +kernel
theorem dX5_firstNobody_36 : decode cX5_firstNobody 36 = .ok (.ifCond .eq 14, 3) := by decide +kernel
theorem dX5_firstNobody_39 : decode cX5_firstNobody 39 = .ok (.aload_n 0, 1) := by decide +kernel
theorem dX5_firstNobody_40 : decode cX5_firstNobody 40 = .ok (.iload_n 2, 1) := by decide +kernel
theorem dX5_firstNobody_41 : decode cX5_firstNobody 41 = .ok (.invokevirtual 53, 3) := by decide +kernel
theorem dX5_firstNobody_44 : decode cX5_firstNobody 44 = .ok (.iload_n 1, 1) := by decide +kernel
theorem dX5_firstNobody_45 : decode cX5_firstNobody 45 = .ok (.if_icmp .lt 5, 3) := by decide +kernel
theorem dX5_firstNobody_48 : decode cX5_firstNobody 48 = .ok (.iload_n 2, 1) := by decide +kernel
theorem dX5_firstNobody_49 : decode cX5_firstNobody 49 = .ok (.ireturn, 1) := by decide +kernel
theorem dX5_firstNobody_50 : decode cX5_firstNobody 50 = .ok (.iinc 2 1, 3) := by decide +kernel
theorem dX5_firstNobody_53 : decode cX5_firstNobody 53 = .ok (.goto (-46), 3) := by decide +kernel
theorem dX5_firstNobody_56 : decode cX5_firstNobody 56 = .ok (.aload_n 0, 1) := by decide +kernel
theorem dX5_firstNobody_57 : decode cX5_firstNobody 57 = .ok (.getfield 15, 3) := by decide +kernel
theorem dX5_firstNobody_60 : decode cX5_firstNobody 60 = .ok (.ireturn, 1) := by decide +kernel
theorem dX6_init_0 : decode cX6_init 0 = .ok (.aload_n 0, 1) := by decide +kernel
theorem dX6_init_1 : decode cX6_init 1 = .ok (.invokespecial 1, 3) := by decide +kernel
theorem dX6_init_4 : decode cX6_init 4 = .ok (.aload_n 0, 1) := by decide +kernel
theorem dX6_init_5 : decode cX6_init 5 = .ok (.iload_n 1, 1) := by decide +kernel
theorem dX6_init_6 : decode cX6_init 6 = .ok (.putfield 7, 3) := by decide +kernel
theorem dX6_init_9 : decode cX6_init 9 = .ok (.return_, 1) := by decide +kernel
theorem dX6_isSpelt_0 : decode cX6_isSpelt 0 = .ok (.iload_n 1, 1) := by decide +kernel
theorem dX6_isSpelt_1 : decode cX6_isSpelt 1 = .ok (.ifCond .eq 11, 3) := by decide +kernel
theorem dX6_isSpelt_4 : decode cX6_isSpelt 4 = .ok (.iload_n 2, 1) := by decide +kernel
theorem dX6_isSpelt_5 : decode cX6_isSpelt 5 = .ok (.ifCond .eq 7, 3) := by decide +kernel
theorem dX6_isSpelt_8 : decode cX6_isSpelt 8 = .ok (.iconst 1, 1) := by decide +kernel
theorem dX6_isSpelt_9 : decode cX6_isSpelt 9 = .ok (.goto 4, 3) := by decide +kernel
theorem dX6_isSpelt_12 : decode cX6_isSpelt 12 = .ok (.iconst 0, 1) := by decide +kernel
theorem dX6_isSpelt_13 : decode cX6_isSpelt 13 = .ok (.ireturn, 1) := by decide +kernel
theorem dX7_init_0 : decode cX7_init 0 = .ok (.aload_n 0, 1) := by decide +kernel
theorem dX7_init_1 : decode cX7_init 1 = .ok (.invokespecial 3, 3) := by decide +kernel
theorem dX7_init_4 : decode cX7_init 4 = .ok (.aload_n 0, 1) := by decide +kernel
theorem dX7_init_5 : decode cX7_init 5 = .ok (.bipush 32, 2) := by decide +kernel
theorem dX7_init_7 : decode cX7_init 7 = .ok (.newarray .int, 2) := by decide +kernel
theorem dX7_init_9 : decode cX7_init 9 = .ok (.putfield 9, 3) := by decide +kernel
theorem dX7_init_12 : decode cX7_init 12 = .ok (.aload_n 0, 1) := by decide +kernel
theorem dX7_init_13 : decode cX7_init 13 = .ok (.iconst 3, 1) := by decide +kernel
theorem dX7_init_14 : decode cX7_init 14 = .ok (.newarray .int, 2) := by decide +kernel
theorem dX7_init_16 : decode cX7_init 16 = .ok (.putfield 15, 3) := by decide +kernel
theorem dX7_init_19 : decode cX7_init 19 = .ok (.return_, 1) := by decide +kernel
theorem dX7_planMoves_0 : decode cX7_planMoves 0 = .ok (.iconst 2, 1) := by decide +kernel
theorem dX7_planMoves_1 : decode cX7_planMoves 1 = .ok (.iconst 5, 1) := by decide +kernel
theorem dX7_planMoves_2 : decode cX7_planMoves 2 = .ok (.aload_n 1, 1) := by decide +kernel
theorem dX7_planMoves_3 : decode cX7_planMoves 3 = .ok (.getfield 18, 3) := by decide +kernel
theorem dX7_planMoves_6 : decode cX7_planMoves 6 = .ok (.isub, 1) := by decide +kernel
theorem dX7_planMoves_7 : decode cX7_planMoves 7 = .ok (.imul, 1) := by decide +kernel
theorem dX7_planMoves_8 : decode cX7_planMoves 8 = .ok (.istore_n 3, 1) := by decide +kernel
theorem dX7_planMoves_9 : decode cX7_planMoves 9 = .ok (.bipush 6, 2) := by decide +kernel
theorem dX7_planMoves_11 : decode cX7_planMoves 11 = .ok (.istore 4, 2) := by decide +kernel
theorem dX7_planMoves_13 : decode cX7_planMoves 13 = .ok (.iconst 0, 1) := by decide +kernel
theorem dX7_planMoves_14 : decode cX7_planMoves 14 = .ok (.istore 5, 2) := by decide +kernel
theorem dX7_planMoves_16 : decode cX7_planMoves 16 = .ok (.iload 5, 2) := by decide +kernel
theorem dX7_planMoves_18 : decode cX7_planMoves 18 = .ok (.iconst 1, 1) := by decide +kernel
theorem dX7_planMoves_19 : decode cX7_planMoves 19 = .ok (.iconst 2, 1) := by decide +kernel
theorem dX7_planMoves_20 : decode cX7_planMoves 20 = .ok (.aload_n 1, 1) := by decide +kernel
theorem dX7_planMoves_21 : decode cX7_planMoves 21 = .ok (.getfield 18, 3) := by decide +kernel
theorem dX7_planMoves_24 : decode cX7_planMoves 24 = .ok (.imul, 1) := by decide +kernel
theorem dX7_planMoves_25 : decode cX7_planMoves 25 = .ok (.ishl, 1) := by decide +kernel
theorem dX7_planMoves_26 : decode cX7_planMoves 26 = .ok (.if_icmp .ge 61, 3) := by decide +kernel
theorem dX7_planMoves_29 : decode cX7_planMoves 29 = .ok (.iload 5, 2) := by decide +kernel
theorem dX7_planMoves_31 : decode cX7_planMoves 31 = .ok (.iload_n 3, 1) := by decide +kernel
theorem dX7_planMoves_32 : decode cX7_planMoves 32 = .ok (.ishl, 1) := by decide +kernel
theorem dX7_planMoves_33 : decode cX7_planMoves 33 = .ok (.istore 6, 2) := by decide +kernel
theorem dX7_planMoves_35 : decode cX7_planMoves 35 = .ok (.iload 6, 2) := by decide +kernel
theorem dX7_planMoves_37 : decode cX7_planMoves 37 = .ok (.aload_n 1, 1) := by decide +kernel
theorem dX7_planMoves_38 : decode cX7_planMoves 38 = .ok (.getfield 24, 3) := by decide +kernel
theorem dX7_planMoves_41 : decode cX7_planMoves 41 = .ok (.getfield 28, 3) := by decide +kernel
theorem dX7_planMoves_44 : decode cX7_planMoves 44 = .ok (.invokestatic 33, 3) := by decide +kernel
theorem dX7_planMoves_47 : decode cX7_planMoves 47 = .ok (.istore 7, 2) := by decide +kernel
theorem dX7_planMoves_49 : decode cX7_planMoves 49 = .ok (.iload 7, 2) := by decide +kernel
theorem dX7_planMoves_51 : decode cX7_planMoves 51 = .ok (.iload 4, 2) := by decide +kernel
theorem dX7_planMoves_53 : decode cX7_planMoves 53 = .ok (.if_icmp .ge 28, 3) := by decide +kernel
theorem dX7_planMoves_56 : decode cX7_planMoves 56 = .ok (.aload_n 1, 1) := by decide +kernel
theorem dX7_planMoves_57 : decode cX7_planMoves 57 = .ok (.iload_n 2, 1) := by decide +kernel
theorem dX7_planMoves_58 : decode cX7_planMoves 58 = .ok (.aload_n 1, 1) := by decide +kernel
theorem dX7_planMoves_59 : decode cX7_planMoves 59 = .ok (.iload 6, 2) := by decide +kernel
theorem dX7_planMoves_61 : decode cX7_planMoves 61 = .ok (.iload_n 2, 1) := by decide +kernel
theorem dX7_planMoves_62 : decode cX7_planMoves 62 = .ok (.invokevirtual 37, 3) := by decide +kernel
theorem dX7_planMoves_65 : decode cX7_planMoves 65 = .ok (.invokevirtual 40, 3) := by decide +kernel
theorem dX7_planMoves_68 : decode cX7_planMoves 68 = .ok (.ifCond .eq 13, 3) := by decide +kernel
theorem dX7_planMoves_71 : decode cX7_planMoves 71 = .ok (.iload 7, 2) := by decide +kernel
theorem dX7_planMoves_73 : decode cX7_planMoves 73 = .ok (.istore 4, 2) := by decide +kernel
theorem dX7_planMoves_75 : decode cX7_planMoves 75 = .ok (.aload_n 0, 1) := by decide +kernel
theorem dX7_planMoves_76 : decode cX7_planMoves 76 = .ok (.iload 6, 2) := by decide +kernel
theorem dX7_planMoves_78 : decode cX7_planMoves 78 = .ok (.putfield 44, 3) := by decide +kernel
theorem dX7_planMoves_81 : decode cX7_planMoves 81 = .ok (.iinc 5 1, 3) := by decide +kernel
theorem dX7_planMoves_84 : decode cX7_planMoves 84 = .ok (.goto (-68), 3) := by decide +kernel
theorem dX7_planMoves_87 : decode cX7_planMoves 87 = .ok (.iload 4, 2) := by decide +kernel
theorem dX7_planMoves_89 : decode cX7_planMoves 89 = .ok (.iconst 5, 1) := by decide +kernel
theorem dX7_planMoves_90 : decode cX7_planMoves 90 = .ok (.if_icmp .le 7, 3) := by decide +kernel
theorem dX7_planMoves_93 : decode cX7_planMoves 93 = .ok (.iconst (-1), 1) := by decide +kernel
theorem dX7_planMoves_94 : decode cX7_planMoves 94 = .ok (.goto 5, 3) := by decide +kernel
theorem dX7_planMoves_97 : decode cX7_planMoves 97 = .ok (.iload 4, 2) := by decide +kernel
theorem dX7_planMoves_99 : decode cX7_planMoves 99 = .ok (.ireturn, 1) := by decide +kernel
theorem dX7_howManyDiffer_0 : decode cX7_howManyDiffer 0 = .ok (.iload_n 0, 1) := by decide +kernel
theorem dX7_howManyDiffer_1 : decode cX7_howManyDiffer 1 = .ok (.iload_n 1, 1) := by decide +kernel
theorem dX7_howManyDiffer_2 : decode cX7_howManyDiffer 2 = .ok (.ixor, 1) := by decide +kernel
theorem dX7_howManyDiffer_3 : decode cX7_howManyDiffer 3 = .ok (.istore_n 2, 1) := by decide +kernel
theorem dX7_howManyDiffer_4 : decode cX7_howManyDiffer 4 = .ok (.iload_n 2, 1) := by decide +kernel
theorem dX7_howManyDiffer_5 : decode cX7_howManyDiffer 5 = .ok (.iload_n 2, 1) := by decide +kernel
theorem dX7_howManyDiffer_6 : decode cX7_howManyDiffer 6 = .ok (.iconst 1, 1) := by decide +kernel
theorem dX7_howManyDiffer_7 : decode cX7_howManyDiffer 7 = .ok (.ishr, 1) := by decide +kernel
theorem dX7_howManyDiffer_8 : decode cX7_howManyDiffer 8 = .ok (.ior, 1) := by decide +kernel
theorem dX7_howManyDiffer_9 : decode cX7_howManyDiffer 9 = .ok (.sipush 341, 3) := by decide +kernel
theorem dX7_howManyDiffer_12 : decode cX7_howManyDiffer 12 = .ok (.iand, 1) := by decide +kernel
theorem dX7_howManyDiffer_13 : decode cX7_howManyDiffer 13 = .ok (.invokestatic 47, 3) := by decide +kernel
theorem dX7_howManyDiffer_16 : decode cX7_howManyDiffer 16 = .ok (.ireturn, 1) := by decide +kernel
theorem dX7_planDays_0 : decode cX7_planDays 0 = .ok (.iload_n 2, 1) := by decide +kernel
theorem dX7_planDays_1 : decode cX7_planDays 1 = .ok (.ifCond .ne 5, 3) := by decide +kernel
theorem dX7_planDays_4 : decode cX7_planDays 4 = .ok (.iconst 0, 1) := by decide +kernel
theorem dX7_planDays_5 : decode cX7_planDays 5 = .ok (.ireturn, 1) := by decide +kernel
theorem dX7_planDays_6 : decode cX7_planDays 6 = .ok (.aload_n 0, 1) := by decide +kernel
theorem dX7_planDays_7 : decode cX7_planDays 7 = .ok (.iconst 1, 1) := by decide +kernel
theorem dX7_planDays_8 : decode cX7_planDays 8 = .ok (.aload_n 1, 1) := by decide +kernel
theorem dX7_planDays_9 : decode cX7_planDays 9 = .ok (.getfield 18, 3) := by decide +kernel
theorem dX7_planDays_12 : decode cX7_planDays 12 = .ok (.ishl, 1) := by decide +kernel
theorem dX7_planDays_13 : decode cX7_planDays 13 = .ok (.putfield 53, 3) := by decide +kernel
theorem dX7_planDays_16 : decode cX7_planDays 16 = .ok (.iconst 0, 1) := by decide +kernel
theorem dX7_planDays_17 : decode cX7_planDays 17 = .ok (.istore_n 3, 1) := by decide +kernel
theorem dX7_planDays_18 : decode cX7_planDays 18 = .ok (.iload_n 3, 1) := by decide +kernel
theorem dX7_planDays_19 : decode cX7_planDays 19 = .ok (.aload_n 0, 1) := by decide +kernel
theorem dX7_planDays_20 : decode cX7_planDays 20 = .ok (.getfield 53, 3) := by decide +kernel
theorem dX7_planDays_23 : decode cX7_planDays 23 = .ok (.if_icmp .ge 23, 3) := by decide +kernel
theorem dX7_planDays_26 : decode cX7_planDays 26 = .ok (.aload_n 0, 1) := by decide +kernel
theorem dX7_planDays_27 : decode cX7_planDays 27 = .ok (.getfield 9, 3) := by decide +kernel
theorem dX7_planDays_30 : decode cX7_planDays 30 = .ok (.iload_n 3, 1) := by decide +kernel
theorem dX7_planDays_31 : decode cX7_planDays 31 = .ok (.aload_n 0, 1) := by decide +kernel
theorem dX7_planDays_32 : decode cX7_planDays 32 = .ok (.aload_n 1, 1) := by decide +kernel
theorem dX7_planDays_33 : decode cX7_planDays 33 = .ok (.iload_n 3, 1) := by decide +kernel
theorem dX7_planDays_34 : decode cX7_planDays 34 = .ok (.invokevirtual 56, 3) := by decide +kernel
theorem dX7_planDays_37 : decode cX7_planDays 37 = .ok (.invokestatic 60, 3) := by decide +kernel
theorem dX7_planDays_40 : decode cX7_planDays 40 = .ok (.iinc 3 1, 3) := by decide +kernel
theorem dX7_planDays_43 : decode cX7_planDays 43 = .ok (.goto (-25), 3) := by decide +kernel
theorem dX7_planDays_46 : decode cX7_planDays 46 = .ok (.iconst 1, 1) := by decide +kernel
theorem dX7_planDays_47 : decode cX7_planDays 47 = .ok (.istore_n 3, 1) := by decide +kernel
theorem dX7_planDays_48 : decode cX7_planDays 48 = .ok (.iload_n 3, 1) := by decide +kernel
theorem dX7_planDays_49 : decode cX7_planDays 49 = .ok (.iconst 3, 1) := by decide +kernel
theorem dX7_planDays_50 : decode cX7_planDays 50 = .ok (.if_icmp .gt 22, 3) := by decide +kernel
theorem dX7_planDays_53 : decode cX7_planDays 53 = .ok (.aload_n 0, 1) := by decide +kernel
theorem dX7_planDays_54 : decode cX7_planDays 54 = .ok (.iload_n 2, 1) := by decide +kernel
theorem dX7_planDays_55 : decode cX7_planDays 55 = .ok (.iconst 1, 1) := by decide +kernel
theorem dX7_planDays_56 : decode cX7_planDays 56 = .ok (.iconst 0, 1) := by decide +kernel
theorem dX7_planDays_57 : decode cX7_planDays 57 = .ok (.iload_n 3, 1) := by decide +kernel
theorem dX7_planDays_58 : decode cX7_planDays 58 = .ok (.invokevirtual 64, 3) := by decide +kernel
theorem dX7_planDays_61 : decode cX7_planDays 61 = .ok (.ifCond .eq 5, 3) := by decide +kernel
theorem dX7_planDays_64 : decode cX7_planDays 64 = .ok (.iload_n 3, 1) := by decide +kernel
theorem dX7_planDays_65 : decode cX7_planDays 65 = .ok (.ireturn, 1) := by decide +kernel
theorem dX7_planDays_66 : decode cX7_planDays 66 = .ok (.iinc 3 1, 3) := by decide +kernel
theorem dX7_planDays_69 : decode cX7_planDays 69 = .ok (.goto (-21), 3) := by decide +kernel
theorem dX7_planDays_72 : decode cX7_planDays 72 = .ok (.iconst (-1), 1) := by decide +kernel
theorem dX7_planDays_73 : decode cX7_planDays 73 = .ok (.ireturn, 1) := by decide +kernel
theorem dX7_whoIsWritten_0 : decode cX7_whoIsWritten 0 = .ok (.iconst 0, 1) := by decide +kernel
theorem dX7_whoIsWritten_1 : decode cX7_whoIsWritten 1 = .ok (.istore_n 3, 1) := by decide +kernel
theorem dX7_whoIsWritten_2 : decode cX7_whoIsWritten 2 = .ok (.iconst 0, 1) := by decide +kernel
theorem dX7_whoIsWritten_3 : decode cX7_whoIsWritten 3 = .ok (.istore 4, 2) := by decide +kernel
theorem dX7_whoIsWritten_5 : decode cX7_whoIsWritten 5 = .ok (.iload 4, 2) := by decide +kernel
theorem dX7_whoIsWritten_7 : decode cX7_whoIsWritten 7 = .ok (.aload_n 1, 1) := by decide +kernel
theorem dX7_whoIsWritten_8 : decode cX7_whoIsWritten 8 = .ok (.getfield 18, 3) := by decide +kernel
theorem dX7_whoIsWritten_11 : decode cX7_whoIsWritten 11 = .ok (.if_icmp .ge 26, 3) := by decide +kernel
theorem dX7_whoIsWritten_14 : decode cX7_whoIsWritten 14 = .ok (.aload_n 1, 1) := by decide +kernel
theorem dX7_whoIsWritten_15 : decode cX7_whoIsWritten 15 = .ok (.iload 4, 2) := by decide +kernel
theorem dX7_whoIsWritten_17 : decode cX7_whoIsWritten 17 = .ok (.iload_n 2, 1) := by decide +kernel
theorem dX7_whoIsWritten_18 : decode cX7_whoIsWritten 18 = .ok (.invokevirtual 40, 3) := by decide +kernel
theorem dX7_whoIsWritten_21 : decode cX7_whoIsWritten 21 = .ok (.ifCond .eq 10, 3) := by decide +kernel
theorem dX7_whoIsWritten_24 : decode cX7_whoIsWritten 24 = .ok (.iload_n 3, 1) := by decide +kernel
theorem dX7_whoIsWritten_25 : decode cX7_whoIsWritten 25 = .ok (.iconst 1, 1) := by decide +kernel
theorem dX7_whoIsWritten_26 : decode cX7_whoIsWritten 26 = .ok (.iload 4, 2) := by decide +kernel
theorem dX7_whoIsWritten_28 : decode cX7_whoIsWritten 28 = .ok (.ishl, 1) := by decide +kernel
theorem dX7_whoIsWritten_29 : decode cX7_whoIsWritten 29 = .ok (.ior, 1) := by decide +kernel
theorem dX7_whoIsWritten_30 : decode cX7_whoIsWritten 30 = .ok (.istore_n 3, 1) := by decide +kernel
theorem dX7_whoIsWritten_31 : decode cX7_whoIsWritten 31 = .ok (.iinc 4 1, 3) := by decide +kernel
theorem dX7_whoIsWritten_34 : decode cX7_whoIsWritten 34 = .ok (.goto (-29), 3) := by decide +kernel
theorem dX7_whoIsWritten_37 : decode cX7_whoIsWritten 37 = .ok (.iload_n 3, 1) := by decide +kernel
theorem dX7_whoIsWritten_38 : decode cX7_whoIsWritten 38 = .ok (.ireturn, 1) := by decide +kernel
theorem dX7_cover_0 : decode cX7_cover 0 = .ok (.iload_n 3, 1) := by decide +kernel
theorem dX7_cover_1 : decode cX7_cover 1 = .ok (.iload 4, 2) := by decide +kernel
theorem dX7_cover_3 : decode cX7_cover 3 = .ok (.if_icmp .ge 8, 3) := by decide +kernel
theorem dX7_cover_6 : decode cX7_cover 6 = .ok (.iload_n 3, 1) := by decide +kernel
theorem dX7_cover_7 : decode cX7_cover 7 = .ok (.iconst 3, 1) := by decide +kernel
theorem dX7_cover_8 : decode cX7_cover 8 = .ok (.if_icmp .lt 13, 3) := by decide +kernel
theorem dX7_cover_11 : decode cX7_cover 11 = .ok (.iload_n 1, 1) := by decide +kernel
theorem dX7_cover_12 : decode cX7_cover 12 = .ok (.ifCond .ne 7, 3) := by decide +kernel
theorem dX7_cover_15 : decode cX7_cover 15 = .ok (.iconst 1, 1) := by decide +kernel
theorem dX7_cover_16 : decode cX7_cover 16 = .ok (.goto 4, 3) := by decide +kernel
theorem dX7_cover_19 : decode cX7_cover 19 = .ok (.iconst 0, 1) := by decide +kernel
theorem dX7_cover_20 : decode cX7_cover 20 = .ok (.ireturn, 1) := by decide +kernel
theorem dX7_cover_21 : decode cX7_cover 21 = .ok (.iload_n 2, 1) := by decide +kernel
theorem dX7_cover_22 : decode cX7_cover 22 = .ok (.istore 5, 2) := by decide +kernel
theorem dX7_cover_24 : decode cX7_cover 24 = .ok (.iload 5, 2) := by decide +kernel
theorem dX7_cover_26 : decode cX7_cover 26 = .ok (.aload_n 0, 1) := by decide +kernel
theorem dX7_cover_27 : decode cX7_cover 27 = .ok (.getfield 53, 3) := by decide +kernel
theorem dX7_cover_30 : decode cX7_cover 30 = .ok (.if_icmp .ge 50, 3) := by decide +kernel
theorem dX7_cover_33 : decode cX7_cover 33 = .ok (.aload_n 0, 1) := by decide +kernel
theorem dX7_cover_34 : decode cX7_cover 34 = .ok (.iload_n 1, 1) := by decide +kernel
theorem dX7_cover_35 : decode cX7_cover 35 = .ok (.aload_n 0, 1) := by decide +kernel
theorem dX7_cover_36 : decode cX7_cover 36 = .ok (.getfield 9, 3) := by decide +kernel
theorem dX7_cover_39 : decode cX7_cover 39 = .ok (.iload 5, 2) := by decide +kernel
theorem dX7_cover_41 : decode cX7_cover 41 = .ok (.invokestatic 68, 3) := by decide +kernel
theorem dX7_cover_44 : decode cX7_cover 44 = .ok (.iconst (-1), 1) := by decide +kernel
theorem dX7_cover_45 : decode cX7_cover 45 = .ok (.ixor, 1) := by decide +kernel
theorem dX7_cover_46 : decode cX7_cover 46 = .ok (.iand, 1) := by decide +kernel
theorem dX7_cover_47 : decode cX7_cover 47 = .ok (.iload 5, 2) := by decide +kernel
theorem dX7_cover_49 : decode cX7_cover 49 = .ok (.iconst 1, 1) := by decide +kernel
theorem dX7_cover_50 : decode cX7_cover 50 = .ok (.iadd, 1) := by decide +kernel
theorem dX7_cover_51 : decode cX7_cover 51 = .ok (.iload_n 3, 1) := by decide +kernel
theorem dX7_cover_52 : decode cX7_cover 52 = .ok (.iconst 1, 1) := by decide +kernel
theorem dX7_cover_53 : decode cX7_cover 53 = .ok (.iadd, 1) := by decide +kernel
theorem dX7_cover_54 : decode cX7_cover 54 = .ok (.iload 4, 2) := by decide +kernel
theorem dX7_cover_56 : decode cX7_cover 56 = .ok (.invokevirtual 64, 3) := by decide +kernel
theorem dX7_cover_59 : decode cX7_cover 59 = .ok (.ifCond .eq 15, 3) := by decide +kernel
theorem dX7_cover_62 : decode cX7_cover 62 = .ok (.aload_n 0, 1) := by decide +kernel
theorem dX7_cover_63 : decode cX7_cover 63 = .ok (.getfield 15, 3) := by decide +kernel
theorem dX7_cover_66 : decode cX7_cover 66 = .ok (.iload_n 3, 1) := by decide +kernel
theorem dX7_cover_67 : decode cX7_cover 67 = .ok (.iload 5, 2) := by decide +kernel
theorem dX7_cover_69 : decode cX7_cover 69 = .ok (.invokestatic 60, 3) := by decide +kernel
theorem dX7_cover_72 : decode cX7_cover 72 = .ok (.iconst 1, 1) := by decide +kernel
theorem dX7_cover_73 : decode cX7_cover 73 = .ok (.ireturn, 1) := by decide +kernel
theorem dX7_cover_74 : decode cX7_cover 74 = .ok (.iinc 5 1, 3) := by decide +kernel
theorem dX7_cover_77 : decode cX7_cover 77 = .ok (.goto (-53), 3) := by decide +kernel
theorem dX7_cover_80 : decode cX7_cover 80 = .ok (.iconst 0, 1) := by decide +kernel
theorem dX7_cover_81 : decode cX7_cover 81 = .ok (.ireturn, 1) := by decide +kernel
theorem dX8_init_0 : decode cX8_init 0 = .ok (.aload_n 0, 1) := by decide +kernel
theorem dX8_init_1 : decode cX8_init 1 = .ok (.iconst 3, 1) := by decide +kernel
theorem dX8_init_2 : decode cX8_init 2 = .ok (.invokespecial 1, 3) := by decide +kernel
theorem dX8_init_5 : decode cX8_init 5 = .ok (.return_, 1) := by decide +kernel
theorem dX8_isSpelt_0 : decode cX8_isSpelt 0 = .ok (.iload_n 1, 1) := by decide +kernel
theorem dX8_isSpelt_1 : decode cX8_isSpelt 1 = .ok (.ifCond .eq 16, 3) := by decide +kernel
theorem dX8_isSpelt_4 : decode cX8_isSpelt 4 = .ok (.iload_n 2, 1) := by decide +kernel
theorem dX8_isSpelt_5 : decode cX8_isSpelt 5 = .ok (.ifCond .eq 12, 3) := by decide +kernel
theorem dX8_isSpelt_8 : decode cX8_isSpelt 8 = .ok (.iload 4, 2) := by decide +kernel
theorem dX8_isSpelt_10 : decode cX8_isSpelt 10 = .ok (.ifCond .ne 7, 3) := by decide +kernel
theorem dX8_isSpelt_13 : decode cX8_isSpelt 13 = .ok (.iconst 1, 1) := by decide +kernel
theorem dX8_isSpelt_14 : decode cX8_isSpelt 14 = .ok (.goto 4, 3) := by decide +kernel
theorem dX8_isSpelt_17 : decode cX8_isSpelt 17 = .ok (.iconst 0, 1) := by decide +kernel
theorem dX8_isSpelt_18 : decode cX8_isSpelt 18 = .ok (.ireturn, 1) := by decide +kernel
theorem dX9_init_0 : decode cX9_init 0 = .ok (.aload_n 0, 1) := by decide +kernel
theorem dX9_init_1 : decode cX9_init 1 = .ok (.invokespecial 3, 3) := by decide +kernel
theorem dX9_init_4 : decode cX9_init 4 = .ok (.aload_n 0, 1) := by decide +kernel
theorem dX9_init_5 : decode cX9_init 5 = .ok (.new 9, 3) := by decide +kernel
theorem dX9_init_8 : decode cX9_init 8 = .ok (.dup, 1) := by decide +kernel
theorem dX9_init_9 : decode cX9_init 9 = .ok (.invokespecial 11, 3) := by decide +kernel
theorem dX9_init_12 : decode cX9_init 12 = .ok (.putfield 12, 3) := by decide +kernel
theorem dX9_init_15 : decode cX9_init 15 = .ok (.aload_n 0, 1) := by decide +kernel
theorem dX9_init_16 : decode cX9_init 16 = .ok (.iconst 5, 1) := by decide +kernel
theorem dX9_init_17 : decode cX9_init 17 = .ok (.anewarray 18, 3) := by decide +kernel
theorem dX9_init_20 : decode cX9_init 20 = .ok (.dup, 1) := by decide +kernel
theorem dX9_init_21 : decode cX9_init 21 = .ok (.iconst 0, 1) := by decide +kernel
theorem dX9_init_22 : decode cX9_init 22 = .ok (.new 18, 3) := by decide +kernel
theorem dX9_init_25 : decode cX9_init 25 = .ok (.dup, 1) := by decide +kernel
theorem dX9_init_26 : decode cX9_init 26 = .ok (.iconst 0, 1) := by decide +kernel
theorem dX9_init_27 : decode cX9_init 27 = .ok (.invokespecial 20, 3) := by decide +kernel
theorem dX9_init_30 : decode cX9_init 30 = .ok (.aastore, 1) := by decide +kernel
theorem dX9_init_31 : decode cX9_init 31 = .ok (.dup, 1) := by decide +kernel
theorem dX9_init_32 : decode cX9_init 32 = .ok (.iconst 1, 1) := by decide +kernel
theorem dX9_init_33 : decode cX9_init 33 = .ok (.new 23, 3) := by decide +kernel
theorem dX9_init_36 : decode cX9_init 36 = .ok (.dup, 1) := by decide +kernel
theorem dX9_init_37 : decode cX9_init 37 = .ok (.invokespecial 25, 3) := by decide +kernel
theorem dX9_init_40 : decode cX9_init 40 = .ok (.aastore, 1) := by decide +kernel
theorem dX9_init_41 : decode cX9_init 41 = .ok (.dup, 1) := by decide +kernel
theorem dX9_init_42 : decode cX9_init 42 = .ok (.iconst 2, 1) := by decide +kernel
theorem dX9_init_43 : decode cX9_init 43 = .ok (.new 26, 3) := by decide +kernel
theorem dX9_init_46 : decode cX9_init 46 = .ok (.dup, 1) := by decide +kernel
theorem dX9_init_47 : decode cX9_init 47 = .ok (.iconst 2, 1) := by decide +kernel
theorem dX9_init_48 : decode cX9_init 48 = .ok (.invokespecial 28, 3) := by decide +kernel
theorem dX9_init_51 : decode cX9_init 51 = .ok (.aastore, 1) := by decide +kernel
theorem dX9_init_52 : decode cX9_init 52 = .ok (.dup, 1) := by decide +kernel
theorem dX9_init_53 : decode cX9_init 53 = .ok (.iconst 3, 1) := by decide +kernel
theorem dX9_init_54 : decode cX9_init 54 = .ok (.new 29, 3) := by decide +kernel
theorem dX9_init_57 : decode cX9_init 57 = .ok (.dup, 1) := by decide +kernel
theorem dX9_init_58 : decode cX9_init 58 = .ok (.invokespecial 31, 3) := by decide +kernel
theorem dX9_init_61 : decode cX9_init 61 = .ok (.aastore, 1) := by decide +kernel
theorem dX9_init_62 : decode cX9_init 62 = .ok (.dup, 1) := by decide +kernel
theorem dX9_init_63 : decode cX9_init 63 = .ok (.iconst 4, 1) := by decide +kernel
theorem dX9_init_64 : decode cX9_init 64 = .ok (.new 32, 3) := by decide +kernel
theorem dX9_init_67 : decode cX9_init 67 = .ok (.dup, 1) := by decide +kernel
theorem dX9_init_68 : decode cX9_init 68 = .ok (.invokespecial 34, 3) := by decide +kernel
theorem dX9_init_71 : decode cX9_init 71 = .ok (.aastore, 1) := by decide +kernel
theorem dX9_init_72 : decode cX9_init 72 = .ok (.putfield 35, 3) := by decide +kernel
theorem dX9_init_75 : decode cX9_init 75 = .ok (.aload_n 0, 1) := by decide +kernel
theorem dX9_init_76 : decode cX9_init 76 = .ok (.iconst 5, 1) := by decide +kernel
theorem dX9_init_77 : decode cX9_init 77 = .ok (.anewarray 18, 3) := by decide +kernel
theorem dX9_init_80 : decode cX9_init 80 = .ok (.putfield 39, 3) := by decide +kernel
theorem dX9_init_83 : decode cX9_init 83 = .ok (.return_, 1) := by decide +kernel
theorem dX9_settle_0 : decode cX9_settle 0 = .ok (.aload_n 0, 1) := by decide +kernel
theorem dX9_settle_1 : decode cX9_settle 1 = .ok (.getfield 12, 3) := by decide +kernel
theorem dX9_settle_4 : decode cX9_settle 4 = .ok (.invokevirtual 42, 3) := by decide +kernel
theorem dX9_settle_7 : decode cX9_settle 7 = .ok (.aload_n 0, 1) := by decide +kernel
theorem dX9_settle_8 : decode cX9_settle 8 = .ok (.aload_n 1, 1) := by decide +kernel
theorem dX9_settle_9 : decode cX9_settle 9 = .ok (.invokevirtual 45, 3) := by decide +kernel
theorem dX9_settle_12 : decode cX9_settle 12 = .ok (.iconst 5, 1) := by decide +kernel
theorem dX9_settle_13 : decode cX9_settle 13 = .ok (.invokestatic 50, 3) := by decide +kernel
theorem dX9_settle_16 : decode cX9_settle 16 = .ok (.putfield 56, 3) := by decide +kernel
theorem dX9_settle_19 : decode cX9_settle 19 = .ok (.iconst 0, 1) := by decide +kernel
theorem dX9_settle_20 : decode cX9_settle 20 = .ok (.istore_n 2, 1) := by decide +kernel
theorem dX9_settle_21 : decode cX9_settle 21 = .ok (.iload_n 2, 1) := by decide +kernel
theorem dX9_settle_22 : decode cX9_settle 22 = .ok (.aload_n 0, 1) := by decide +kernel
theorem dX9_settle_23 : decode cX9_settle 23 = .ok (.getfield 56, 3) := by decide +kernel
theorem dX9_settle_26 : decode cX9_settle 26 = .ok (.if_icmp .ge 93, 3) := by decide +kernel
theorem dX9_settle_29 : decode cX9_settle 29 = .ok (.iload_n 2, 1) := by decide +kernel
theorem dX9_settle_30 : decode cX9_settle 30 = .ok (.aload_n 0, 1) := by decide +kernel
theorem dX9_settle_31 : decode cX9_settle 31 = .ok (.getfield 39, 3) := by decide +kernel
theorem dX9_settle_34 : decode cX9_settle 34 = .ok (.arraylength, 1) := by decide +kernel
theorem dX9_settle_35 : decode cX9_settle 35 = .ok (.if_icmp .ge 84, 3) := by decide +kernel
theorem dX9_settle_38 : decode cX9_settle 38 = .ok (.aload_n 1, 1) := by decide +kernel
theorem dX9_settle_39 : decode cX9_settle 39 = .ok (.iload_n 2, 1) := by decide +kernel
theorem dX9_settle_40 : decode cX9_settle 40 = .ok (.invokevirtual 60, 3) := by decide +kernel
theorem dX9_settle_43 : decode cX9_settle 43 = .ok (.istore_n 3, 1) := by decide +kernel
theorem dX9_settle_44 : decode cX9_settle 44 = .ok (.aload_n 0, 1) := by decide +kernel
theorem dX9_settle_45 : decode cX9_settle 45 = .ok (.getfield 39, 3) := by decide +kernel
theorem dX9_settle_48 : decode cX9_settle 48 = .ok (.iload_n 2, 1) := by decide +kernel
theorem dX9_settle_49 : decode cX9_settle 49 = .ok (.iload_n 3, 1) := by decide +kernel
theorem dX9_settle_50 : decode cX9_settle 50 = .ok (.ifCond .lt 21, 3) := by decide +kernel
theorem dX9_settle_53 : decode cX9_settle 53 = .ok (.iload_n 3, 1) := by decide +kernel
theorem dX9_settle_54 : decode cX9_settle 54 = .ok (.aload_n 0, 1) := by decide +kernel
theorem dX9_settle_55 : decode cX9_settle 55 = .ok (.getfield 35, 3) := by decide +kernel
theorem dX9_settle_58 : decode cX9_settle 58 = .ok (.arraylength, 1) := by decide +kernel
theorem dX9_settle_59 : decode cX9_settle 59 = .ok (.if_icmp .ge 12, 3) := by decide +kernel
theorem dX9_settle_62 : decode cX9_settle 62 = .ok (.aload_n 0, 1) := by decide +kernel
theorem dX9_settle_63 : decode cX9_settle 63 = .ok (.getfield 35, 3) := by decide +kernel
theorem dX9_settle_66 : decode cX9_settle 66 = .ok (.iload_n 3, 1) := by decide +kernel
theorem dX9_settle_67 : decode cX9_settle 67 = .ok (.aaload, 1) := by decide +kernel
theorem dX9_settle_68 : decode cX9_settle 68 = .ok (.goto 4, 3) := by decide +kernel
theorem dX9_settle_71 : decode cX9_settle 71 = .ok (.aconst_null, 1) := by decide +kernel
theorem dX9_settle_72 : decode cX9_settle 72 = .ok (.aastore, 1) := by decide +kernel
theorem dX9_settle_73 : decode cX9_settle 73 = .ok (.aload_n 0, 1) := by decide +kernel
theorem dX9_settle_74 : decode cX9_settle 74 = .ok (.getfield 12, 3) := by decide +kernel
theorem dX9_settle_77 : decode cX9_settle 77 = .ok (.getfield 64, 3) := by decide +kernel
theorem dX9_settle_80 : decode cX9_settle 80 = .ok (.iload_n 2, 1) := by decide +kernel
theorem dX9_settle_81 : decode cX9_settle 81 = .ok (.aload_n 1, 1) := by decide +kernel
theorem dX9_settle_82 : decode cX9_settle 82 = .ok (.iconst 4, 1) := by decide +kernel
theorem dX9_settle_83 : decode cX9_settle 83 = .ok (.iload_n 2, 1) := by decide +kernel
theorem dX9_settle_84 : decode cX9_settle 84 = .ok (.imul, 1) := by decide +kernel
theorem dX9_settle_85 : decode cX9_settle 85 = .ok (.iconst 1, 1) := by decide +kernel
theorem dX9_settle_86 : decode cX9_settle 86 = .ok (.iadd, 1) := by decide +kernel
theorem dX9_settle_87 : decode cX9_settle 87 = .ok (.invokevirtual 68, 3) := by decide +kernel
theorem dX9_settle_90 : decode cX9_settle 90 = .ok (.invokestatic 71, 3) := by decide +kernel
theorem dX9_settle_93 : decode cX9_settle 93 = .ok (.aload_n 0, 1) := by decide +kernel
theorem dX9_settle_94 : decode cX9_settle 94 = .ok (.getfield 12, 3) := by decide +kernel
theorem dX9_settle_97 : decode cX9_settle 97 = .ok (.getfield 75, 3) := by decide +kernel
theorem dX9_settle_100 : decode cX9_settle 100 = .ok (.iload_n 2, 1) := by decide +kernel
theorem dX9_settle_101 : decode cX9_settle 101 = .ok (.aload_n 1, 1) := by decide +kernel
theorem dX9_settle_102 : decode cX9_settle 102 = .ok (.iconst 4, 1) := by decide +kernel
theorem dX9_settle_103 : decode cX9_settle 103 = .ok (.iload_n 2, 1) := by decide +kernel
theorem dX9_settle_104 : decode cX9_settle 104 = .ok (.imul, 1) := by decide +kernel
theorem dX9_settle_105 : decode cX9_settle 105 = .ok (.iconst 2, 1) := by decide +kernel
theorem dX9_settle_106 : decode cX9_settle 106 = .ok (.iadd, 1) := by decide +kernel
theorem dX9_settle_107 : decode cX9_settle 107 = .ok (.invokevirtual 68, 3) := by decide +kernel
theorem dX9_settle_110 : decode cX9_settle 110 = .ok (.invokestatic 71, 3) := by decide +kernel
theorem dX9_settle_113 : decode cX9_settle 113 = .ok (.iinc 2 1, 3) := by decide +kernel
theorem dX9_settle_116 : decode cX9_settle 116 = .ok (.goto (-95), 3) := by decide +kernel
theorem dX9_settle_119 : decode cX9_settle 119 = .ok (.return_, 1) := by decide +kernel
theorem dX9_has_0 : decode cX9_has 0 = .ok (.iload_n 1, 1) := by decide +kernel
theorem dX9_has_1 : decode cX9_has 1 = .ok (.ifCond .lt 15, 3) := by decide +kernel
theorem dX9_has_4 : decode cX9_has 4 = .ok (.iload_n 1, 1) := by decide +kernel
theorem dX9_has_5 : decode cX9_has 5 = .ok (.aload_n 0, 1) := by decide +kernel
theorem dX9_has_6 : decode cX9_has 6 = .ok (.getfield 56, 3) := by decide +kernel
theorem dX9_has_9 : decode cX9_has 9 = .ok (.if_icmp .ge 7, 3) := by decide +kernel
theorem dX9_has_12 : decode cX9_has 12 = .ok (.iconst 1, 1) := by decide +kernel
theorem dX9_has_13 : decode cX9_has 13 = .ok (.goto 4, 3) := by decide +kernel
theorem dX9_has_16 : decode cX9_has 16 = .ok (.iconst 0, 1) := by decide +kernel
theorem dX9_has_17 : decode cX9_has 17 = .ok (.ireturn, 1) := by decide +kernel
theorem dX9_isSetOfPeople_0 : decode cX9_isSetOfPeople 0 = .ok (.iload_n 1, 1) := by decide +kernel
theorem dX9_isSetOfPeople_1 : decode cX9_isSetOfPeople 1 = .ok (.ifCond .lt 17, 3) := by decide +kernel
theorem dX9_isSetOfPeople_4 : decode cX9_isSetOfPeople 4 = .ok (.iload_n 1, 1) := by decide +kernel
theorem dX9_isSetOfPeople_5 : decode cX9_isSetOfPeople 5 = .ok (.iconst 1, 1) := by decide +kernel
theorem dX9_isSetOfPeople_6 : decode cX9_isSetOfPeople 6 = .ok (.aload_n 0, 1) := by decide +kernel
theorem dX9_isSetOfPeople_7 : decode cX9_isSetOfPeople 7 = .ok (.getfield 56, 3) := by decide +kernel
theorem dX9_isSetOfPeople_10 : decode cX9_isSetOfPeople 10 = .ok (.ishl, 1) := by decide +kernel
theorem dX9_isSetOfPeople_11 : decode cX9_isSetOfPeople 11 = .ok (.if_icmp .ge 7, 3) := by decide +kernel
theorem dX9_isSetOfPeople_14 : decode cX9_isSetOfPeople 14 = .ok (.iconst 1, 1) := by decide +kernel
theorem dX9_isSetOfPeople_15 : decode cX9_isSetOfPeople 15 = .ok (.goto 4, 3) := by decide +kernel
theorem dX9_isSetOfPeople_18 : decode cX9_isSetOfPeople 18 = .ok (.iconst 0, 1) := by decide +kernel
theorem dX9_isSetOfPeople_19 : decode cX9_isSetOfPeople 19 = .ok (.ireturn, 1) := by decide +kernel
theorem dX9_isCompanyOf_0 : decode cX9_isCompanyOf 0 = .ok (.aload_n 0, 1) := by decide +kernel
theorem dX9_isCompanyOf_1 : decode cX9_isCompanyOf 1 = .ok (.iload_n 2, 1) := by decide +kernel
theorem dX9_isCompanyOf_2 : decode cX9_isCompanyOf 2 = .ok (.invokevirtual 78, 3) := by decide +kernel
theorem dX9_isCompanyOf_5 : decode cX9_isCompanyOf 5 = .ok (.ifCond .eq 16, 3) := by decide +kernel
theorem dX9_isCompanyOf_8 : decode cX9_isCompanyOf 8 = .ok (.iload_n 2, 1) := by decide +kernel
theorem dX9_isCompanyOf_9 : decode cX9_isCompanyOf 9 = .ok (.iload_n 1, 1) := by decide +kernel
theorem dX9_isCompanyOf_10 : decode cX9_isCompanyOf 10 = .ok (.ishr, 1) := by decide +kernel
theorem dX9_isCompanyOf_11 : decode cX9_isCompanyOf 11 = .ok (.iconst 1, 1) := by decide +kernel
theorem dX9_isCompanyOf_12 : decode cX9_isCompanyOf 12 = .ok (.iand, 1) := by decide +kernel
theorem dX9_isCompanyOf_13 : decode cX9_isCompanyOf 13 = .ok (.iconst 1, 1) := by decide +kernel
theorem dX9_isCompanyOf_14 : decode cX9_isCompanyOf 14 = .ok (.if_icmp .ne 7, 3) := by decide +kernel
theorem dX9_isCompanyOf_17 : decode cX9_isCompanyOf 17 = .ok (.iconst 1, 1) := by decide +kernel
theorem dX9_isCompanyOf_18 : decode cX9_isCompanyOf 18 = .ok (.goto 4, 3) := by decide +kernel
theorem dX9_isCompanyOf_21 : decode cX9_isCompanyOf 21 = .ok (.iconst 0, 1) := by decide +kernel
theorem dX9_isCompanyOf_22 : decode cX9_isCompanyOf 22 = .ok (.ireturn, 1) := by decide +kernel
theorem dX9_personAt_0 : decode cX9_personAt 0 = .ok (.aload_n 0, 1) := by decide +kernel
theorem dX9_personAt_1 : decode cX9_personAt 1 = .ok (.iload_n 1, 1) := by decide +kernel
theorem dX9_personAt_2 : decode cX9_personAt 2 = .ok (.invokevirtual 82, 3) := by decide +kernel
theorem dX9_personAt_5 : decode cX9_personAt 5 = .ok (.ifCond .eq 21, 3) := by decide +kernel
theorem dX9_personAt_8 : decode cX9_personAt 8 = .ok (.iload_n 1, 1) := by decide +kernel
theorem dX9_personAt_9 : decode cX9_personAt 9 = .ok (.aload_n 0, 1) := by decide +kernel
theorem dX9_personAt_10 : decode cX9_personAt 10 = .ok (.getfield 39, 3) := by decide +kernel
theorem dX9_personAt_13 : decode cX9_personAt 13 = .ok (.arraylength, 1) := by decide +kernel
theorem dX9_personAt_14 : decode cX9_personAt 14 = .ok (.if_icmp .ge 12, 3) := by decide +kernel
theorem dX9_personAt_17 : decode cX9_personAt 17 = .ok (.aload_n 0, 1) := by decide +kernel
theorem dX9_personAt_18 : decode cX9_personAt 18 = .ok (.getfield 39, 3) := by decide +kernel
theorem dX9_personAt_21 : decode cX9_personAt 21 = .ok (.iload_n 1, 1) := by decide +kernel
theorem dX9_personAt_22 : decode cX9_personAt 22 = .ok (.aaload, 1) := by decide +kernel
theorem dX9_personAt_23 : decode cX9_personAt 23 = .ok (.goto 4, 3) := by decide +kernel
theorem dX9_personAt_26 : decode cX9_personAt 26 = .ok (.aconst_null, 1) := by decide +kernel
theorem dX9_personAt_27 : decode cX9_personAt 27 = .ok (.areturn, 1) := by decide +kernel
theorem dX9_kindOf_0 : decode cX9_kindOf 0 = .ok (.aload_n 0, 1) := by decide +kernel
theorem dX9_kindOf_1 : decode cX9_kindOf 1 = .ok (.iload_n 1, 1) := by decide +kernel
theorem dX9_kindOf_2 : decode cX9_kindOf 2 = .ok (.invokevirtual 85, 3) := by decide +kernel
theorem dX9_kindOf_5 : decode cX9_kindOf 5 = .ok (.astore_n 2, 1) := by decide +kernel
theorem dX9_kindOf_6 : decode cX9_kindOf 6 = .ok (.aload_n 2, 1) := by decide +kernel
theorem dX9_kindOf_7 : decode cX9_kindOf 7 = .ok (.ifnonnull 7, 3) := by decide +kernel
theorem dX9_kindOf_10 : decode cX9_kindOf 10 = .ok (.iconst (-1), 1) := by decide +kernel
theorem dX9_kindOf_11 : decode cX9_kindOf 11 = .ok (.goto 7, 3) := by decide +kernel
theorem dX9_kindOf_14 : decode cX9_kindOf 14 = .ok (.aload_n 2, 1) := by decide +kernel
theorem dX9_kindOf_15 : decode cX9_kindOf 15 = .ok (.getfield 89, 3) := by decide +kernel
theorem dX9_kindOf_18 : decode cX9_kindOf 18 = .ok (.ireturn, 1) := by decide +kernel
theorem dX9_companyIn_0 : decode cX9_companyIn 0 = .ok (.iload_n 1, 1) := by decide +kernel
theorem dX9_companyIn_1 : decode cX9_companyIn 1 = .ok (.iload_n 2, 1) := by decide +kernel
theorem dX9_companyIn_2 : decode cX9_companyIn 2 = .ok (.invokestatic 92, 3) := by decide +kernel
theorem dX9_companyIn_5 : decode cX9_companyIn 5 = .ok (.istore_n 3, 1) := by decide +kernel
theorem dX9_companyIn_6 : decode cX9_companyIn 6 = .ok (.iconst 0, 1) := by decide +kernel
theorem dX9_companyIn_7 : decode cX9_companyIn 7 = .ok (.istore 4, 2) := by decide +kernel
theorem dX9_companyIn_9 : decode cX9_companyIn 9 = .ok (.iconst 0, 1) := by decide +kernel
theorem dX9_companyIn_10 : decode cX9_companyIn 10 = .ok (.istore 5, 2) := by decide +kernel
theorem dX9_companyIn_12 : decode cX9_companyIn 12 = .ok (.iload 5, 2) := by decide +kernel
theorem dX9_companyIn_14 : decode cX9_companyIn 14 = .ok (.aload_n 0, 1) := by decide +kernel
theorem dX9_companyIn_15 : decode cX9_companyIn 15 = .ok (.getfield 56, 3) := by decide +kernel
theorem dX9_companyIn_18 : decode cX9_companyIn 18 = .ok (.if_icmp .ge 28, 3) := by decide +kernel
theorem dX9_companyIn_21 : decode cX9_companyIn 21 = .ok (.iload_n 1, 1) := by decide +kernel
theorem dX9_companyIn_22 : decode cX9_companyIn 22 = .ok (.iload 5, 2) := by decide +kernel
theorem dX9_companyIn_24 : decode cX9_companyIn 24 = .ok (.invokestatic 92, 3) := by decide +kernel
theorem dX9_companyIn_27 : decode cX9_companyIn 27 = .ok (.iload_n 3, 1) := by decide +kernel
theorem dX9_companyIn_28 : decode cX9_companyIn 28 = .ok (.if_icmp .ne 12, 3) := by decide +kernel
theorem dX9_companyIn_31 : decode cX9_companyIn 31 = .ok (.iload 4, 2) := by decide +kernel
theorem dX9_companyIn_33 : decode cX9_companyIn 33 = .ok (.iconst 1, 1) := by decide +kernel
theorem dX9_companyIn_34 : decode cX9_companyIn 34 = .ok (.iload 5, 2) := by decide +kernel
theorem dX9_companyIn_36 : decode cX9_companyIn 36 = .ok (.ishl, 1) := by decide +kernel
theorem dX9_companyIn_37 : decode cX9_companyIn 37 = .ok (.ior, 1) := by decide +kernel
theorem dX9_companyIn_38 : decode cX9_companyIn 38 = .ok (.istore 4, 2) := by decide +kernel
theorem dX9_companyIn_40 : decode cX9_companyIn 40 = .ok (.iinc 5 1, 3) := by decide +kernel
theorem dX9_companyIn_43 : decode cX9_companyIn 43 = .ok (.goto (-31), 3) := by decide +kernel
theorem dX9_companyIn_46 : decode cX9_companyIn 46 = .ok (.iload 4, 2) := by decide +kernel
theorem dX9_companyIn_48 : decode cX9_companyIn 48 = .ok (.ireturn, 1) := by decide +kernel
theorem dX9_canWrite_0 : decode cX9_canWrite 0 = .ok (.aload_n 0, 1) := by decide +kernel
theorem dX9_canWrite_1 : decode cX9_canWrite 1 = .ok (.iload_n 1, 1) := by decide +kernel
theorem dX9_canWrite_2 : decode cX9_canWrite 2 = .ok (.iload_n 2, 1) := by decide +kernel
theorem dX9_canWrite_3 : decode cX9_canWrite 3 = .ok (.aload_n 0, 1) := by decide +kernel
theorem dX9_canWrite_4 : decode cX9_canWrite 4 = .ok (.getfield 12, 3) := by decide +kernel
theorem dX9_canWrite_7 : decode cX9_canWrite 7 = .ok (.getfield 64, 3) := by decide +kernel
theorem dX9_canWrite_10 : decode cX9_canWrite 10 = .ok (.iload_n 1, 1) := by decide +kernel
theorem dX9_canWrite_11 : decode cX9_canWrite 11 = .ok (.invokestatic 95, 3) := by decide +kernel
theorem dX9_canWrite_14 : decode cX9_canWrite 14 = .ok (.aload_n 0, 1) := by decide +kernel
theorem dX9_canWrite_15 : decode cX9_canWrite 15 = .ok (.getfield 12, 3) := by decide +kernel
theorem dX9_canWrite_18 : decode cX9_canWrite 18 = .ok (.getfield 75, 3) := by decide +kernel
theorem dX9_canWrite_21 : decode cX9_canWrite 21 = .ok (.iload_n 1, 1) := by decide +kernel
theorem dX9_canWrite_22 : decode cX9_canWrite 22 = .ok (.invokestatic 95, 3) := by decide +kernel
theorem dX9_canWrite_25 : decode cX9_canWrite 25 = .ok (.invokevirtual 99, 3) := by decide +kernel
theorem dX9_canWrite_28 : decode cX9_canWrite 28 = .ok (.ireturn, 1) := by decide +kernel
theorem dX9_couldWrite_0 : decode cX9_couldWrite 0 = .ok (.aload_n 0, 1) := by decide +kernel
theorem dX9_couldWrite_1 : decode cX9_couldWrite 1 = .ok (.iload_n 1, 1) := by decide +kernel
theorem dX9_couldWrite_2 : decode cX9_couldWrite 2 = .ok (.invokevirtual 85, 3) := by decide +kernel
theorem dX9_couldWrite_5 : decode cX9_couldWrite 5 = .ok (.astore 5, 2) := by decide +kernel
theorem dX9_couldWrite_7 : decode cX9_couldWrite 7 = .ok (.aload 5, 2) := by decide +kernel
theorem dX9_couldWrite_9 : decode cX9_couldWrite 9 = .ok (.ifnull 11, 3) := by decide +kernel
theorem dX9_couldWrite_12 : decode cX9_couldWrite 12 = .ok (.iload_n 2, 1) := by decide +kernel
theorem dX9_couldWrite_13 : decode cX9_couldWrite 13 = .ok (.iload_n 1, 1) := by decide +kernel
theorem dX9_couldWrite_14 : decode cX9_couldWrite 14 = .ok (.ishr, 1) := by decide +kernel
theorem dX9_couldWrite_15 : decode cX9_couldWrite 15 = .ok (.iconst 1, 1) := by decide +kernel
theorem dX9_couldWrite_16 : decode cX9_couldWrite 16 = .ok (.iand, 1) := by decide +kernel
theorem dX9_couldWrite_17 : decode cX9_couldWrite 17 = .ok (.ifCond .ne 5, 3) := by decide +kernel
theorem dX9_couldWrite_20 : decode cX9_couldWrite 20 = .ok (.iconst 0, 1) := by decide +kernel
theorem dX9_couldWrite_21 : decode cX9_couldWrite 21 = .ok (.ireturn, 1) := by decide +kernel
theorem dX9_couldWrite_22 : decode cX9_couldWrite 22 = .ok (.iconst 1, 1) := by decide +kernel
theorem dX9_couldWrite_23 : decode cX9_couldWrite 23 = .ok (.iload_n 1, 1) := by decide +kernel
theorem dX9_couldWrite_24 : decode cX9_couldWrite 24 = .ok (.ishl, 1) := by decide +kernel
theorem dX9_couldWrite_25 : decode cX9_couldWrite 25 = .ok (.istore 6, 2) := by decide +kernel
theorem dX9_couldWrite_27 : decode cX9_couldWrite 27 = .ok (.iload_n 2, 1) := by decide +kernel
theorem dX9_couldWrite_28 : decode cX9_couldWrite 28 = .ok (.aload_n 0, 1) := by decide +kernel
theorem dX9_couldWrite_29 : decode cX9_couldWrite 29 = .ok (.getfield 12, 3) := by decide +kernel
theorem dX9_couldWrite_32 : decode cX9_couldWrite 32 = .ok (.getfield 103, 3) := by decide +kernel
theorem dX9_couldWrite_35 : decode cX9_couldWrite 35 = .ok (.iload_n 1, 1) := by decide +kernel
theorem dX9_couldWrite_36 : decode cX9_couldWrite 36 = .ok (.invokestatic 95, 3) := by decide +kernel
theorem dX9_couldWrite_39 : decode cX9_couldWrite 39 = .ok (.iconst (-1), 1) := by decide +kernel
theorem dX9_couldWrite_40 : decode cX9_couldWrite 40 = .ok (.ixor, 1) := by decide +kernel
theorem dX9_couldWrite_41 : decode cX9_couldWrite 41 = .ok (.iand, 1) := by decide +kernel
theorem dX9_couldWrite_42 : decode cX9_couldWrite 42 = .ok (.iload 6, 2) := by decide +kernel
theorem dX9_couldWrite_44 : decode cX9_couldWrite 44 = .ok (.ior, 1) := by decide +kernel
theorem dX9_couldWrite_45 : decode cX9_couldWrite 45 = .ok (.istore 7, 2) := by decide +kernel
theorem dX9_couldWrite_47 : decode cX9_couldWrite 47 = .ok (.iload 7, 2) := by decide +kernel
theorem dX9_couldWrite_49 : decode cX9_couldWrite 49 = .ok (.iload_n 3, 1) := by decide +kernel
theorem dX9_couldWrite_50 : decode cX9_couldWrite 50 = .ok (.ishr, 1) := by decide +kernel
theorem dX9_couldWrite_51 : decode cX9_couldWrite 51 = .ok (.iconst 1, 1) := by decide +kernel
theorem dX9_couldWrite_52 : decode cX9_couldWrite 52 = .ok (.iand, 1) := by decide +kernel
theorem dX9_couldWrite_53 : decode cX9_couldWrite 53 = .ok (.iconst 1, 1) := by decide +kernel
theorem dX9_couldWrite_54 : decode cX9_couldWrite 54 = .ok (.if_icmp .ne 7, 3) := by decide +kernel
theorem dX9_couldWrite_57 : decode cX9_couldWrite 57 = .ok (.iconst 1, 1) := by decide +kernel
theorem dX9_couldWrite_58 : decode cX9_couldWrite 58 = .ok (.goto 4, 3) := by decide +kernel
theorem dX9_couldWrite_61 : decode cX9_couldWrite 61 = .ok (.iconst 0, 1) := by decide +kernel
theorem dX9_couldWrite_62 : decode cX9_couldWrite 62 = .ok (.istore 8, 2) := by decide +kernel
theorem dX9_couldWrite_64 : decode cX9_couldWrite 64 = .ok (.iload 7, 2) := by decide +kernel
theorem dX9_couldWrite_66 : decode cX9_couldWrite 66 = .ok (.iload 4, 2) := by decide +kernel
theorem dX9_couldWrite_68 : decode cX9_couldWrite 68 = .ok (.ishr, 1) := by decide +kernel
theorem dX9_couldWrite_69 : decode cX9_couldWrite 69 = .ok (.iconst 1, 1) := by decide +kernel
theorem dX9_couldWrite_70 : decode cX9_couldWrite 70 = .ok (.iand, 1) := by decide +kernel
theorem dX9_couldWrite_71 : decode cX9_couldWrite 71 = .ok (.iconst 1, 1) := by decide +kernel
theorem dX9_couldWrite_72 : decode cX9_couldWrite 72 = .ok (.if_icmp .ne 7, 3) := by decide +kernel
theorem dX9_couldWrite_75 : decode cX9_couldWrite 75 = .ok (.iconst 1, 1) := by decide +kernel
theorem dX9_couldWrite_76 : decode cX9_couldWrite 76 = .ok (.goto 4, 3) := by decide +kernel
theorem dX9_couldWrite_79 : decode cX9_couldWrite 79 = .ok (.iconst 0, 1) := by decide +kernel
theorem dX9_couldWrite_80 : decode cX9_couldWrite 80 = .ok (.istore 9, 2) := by decide +kernel
theorem dX9_couldWrite_82 : decode cX9_couldWrite 82 = .ok (.iload_n 2, 1) := by decide +kernel
theorem dX9_couldWrite_83 : decode cX9_couldWrite 83 = .ok (.iload 6, 2) := by decide +kernel
theorem dX9_couldWrite_85 : decode cX9_couldWrite 85 = .ok (.iconst (-1), 1) := by decide +kernel
theorem dX9_couldWrite_86 : decode cX9_couldWrite 86 = .ok (.ixor, 1) := by decide +kernel
theorem dX9_couldWrite_87 : decode cX9_couldWrite 87 = .ok (.iand, 1) := by decide +kernel
theorem dX9_couldWrite_88 : decode cX9_couldWrite 88 = .ok (.istore 10, 2) := by decide +kernel
theorem dX9_couldWrite_90 : decode cX9_couldWrite 90 = .ok (.aload 5, 2) := by decide +kernel
theorem dX9_couldWrite_92 : decode cX9_couldWrite 92 = .ok (.iload 8, 2) := by decide +kernel
theorem dX9_couldWrite_94 : decode cX9_couldWrite 94 = .ok (.iload 9, 2) := by decide +kernel
theorem dX9_couldWrite_96 : decode cX9_couldWrite 96 = .ok (.iload 10, 2) := by decide +kernel
theorem dX9_couldWrite_98 : decode cX9_couldWrite 98 = .ok (.iload 10, 2) := by decide +kernel
theorem dX9_couldWrite_100 : decode cX9_couldWrite 100 = .ok (.iconst 1, 1) := by decide +kernel
theorem dX9_couldWrite_101 : decode cX9_couldWrite 101 = .ok (.iload_n 3, 1) := by decide +kernel
theorem dX9_couldWrite_102 : decode cX9_couldWrite 102 = .ok (.ishl, 1) := by decide +kernel
theorem dX9_couldWrite_103 : decode cX9_couldWrite 103 = .ok (.iconst 1, 1) := by decide +kernel
theorem dX9_couldWrite_104 : decode cX9_couldWrite 104 = .ok (.iload 4, 2) := by decide +kernel
theorem dX9_couldWrite_106 : decode cX9_couldWrite 106 = .ok (.ishl, 1) := by decide +kernel
theorem dX9_couldWrite_107 : decode cX9_couldWrite 107 = .ok (.ior, 1) := by decide +kernel
theorem dX9_couldWrite_108 : decode cX9_couldWrite 108 = .ok (.iconst (-1), 1) := by decide +kernel
theorem dX9_couldWrite_109 : decode cX9_couldWrite 109 = .ok (.ixor, 1) := by decide +kernel
theorem dX9_couldWrite_110 : decode cX9_couldWrite 110 = .ok (.iand, 1) := by decide +kernel
theorem dX9_couldWrite_111 : decode cX9_couldWrite 111 = .ok (.invokevirtual 106, 3) := by decide +kernel
theorem dX9_couldWrite_114 : decode cX9_couldWrite 114 = .ok (.ireturn, 1) := by decide +kernel
theorem dX9_howManyWritten_0 : decode cX9_howManyWritten 0 = .ok (.iconst 0, 1) := by decide +kernel
theorem dX9_howManyWritten_1 : decode cX9_howManyWritten 1 = .ok (.istore_n 2, 1) := by decide +kernel
theorem dX9_howManyWritten_2 : decode cX9_howManyWritten 2 = .ok (.iconst 0, 1) := by decide +kernel
theorem dX9_howManyWritten_3 : decode cX9_howManyWritten 3 = .ok (.istore_n 3, 1) := by decide +kernel
theorem dX9_howManyWritten_4 : decode cX9_howManyWritten 4 = .ok (.iload_n 3, 1) := by decide +kernel
theorem dX9_howManyWritten_5 : decode cX9_howManyWritten 5 = .ok (.aload_n 0, 1) := by decide +kernel
theorem dX9_howManyWritten_6 : decode cX9_howManyWritten 6 = .ok (.getfield 56, 3) := by decide +kernel
theorem dX9_howManyWritten_9 : decode cX9_howManyWritten 9 = .ok (.if_icmp .ge 26, 3) := by decide +kernel
theorem dX9_howManyWritten_12 : decode cX9_howManyWritten 12 = .ok (.aload_n 0, 1) := by decide +kernel
theorem dX9_howManyWritten_13 : decode cX9_howManyWritten 13 = .ok (.iload_n 3, 1) := by decide +kernel
theorem dX9_howManyWritten_14 : decode cX9_howManyWritten 14 = .ok (.aload_n 0, 1) := by decide +kernel
theorem dX9_howManyWritten_15 : decode cX9_howManyWritten 15 = .ok (.iload_n 1, 1) := by decide +kernel
theorem dX9_howManyWritten_16 : decode cX9_howManyWritten 16 = .ok (.iload_n 3, 1) := by decide +kernel
theorem dX9_howManyWritten_17 : decode cX9_howManyWritten 17 = .ok (.invokevirtual 110, 3) := by decide +kernel
theorem dX9_howManyWritten_20 : decode cX9_howManyWritten 20 = .ok (.invokevirtual 113, 3) := by decide +kernel
theorem dX9_howManyWritten_23 : decode cX9_howManyWritten 23 = .ok (.ifCond .eq 6, 3) := by decide +kernel
theorem dX9_howManyWritten_26 : decode cX9_howManyWritten 26 = .ok (.iinc 2 1, 3) := by decide +kernel
theorem dX9_howManyWritten_29 : decode cX9_howManyWritten 29 = .ok (.iinc 3 1, 3) := by decide +kernel
theorem dX9_howManyWritten_32 : decode cX9_howManyWritten 32 = .ok (.goto (-28), 3) := by decide +kernel
theorem dX9_howManyWritten_35 : decode cX9_howManyWritten 35 = .ok (.iload_n 2, 1) := by decide +kernel
theorem dX9_howManyWritten_36 : decode cX9_howManyWritten 36 = .ok (.ireturn, 1) := by decide +kernel
theorem dX9_quarrellingPairs_0 : decode cX9_quarrellingPairs 0 = .ok (.iconst 0, 1) := by decide +kernel
theorem dX9_quarrellingPairs_1 : decode cX9_quarrellingPairs 1 = .ok (.istore_n 1, 1) := by decide +kernel
theorem dX9_quarrellingPairs_2 : decode cX9_quarrellingPairs 2 = .ok (.iconst 0, 1) := by decide +kernel
theorem dX9_quarrellingPairs_3 : decode cX9_quarrellingPairs 3 = .ok (.istore_n 2, 1) := by decide +kernel
theorem dX9_quarrellingPairs_4 : decode cX9_quarrellingPairs 4 = .ok (.iload_n 2, 1) := by decide +kernel
theorem dX9_quarrellingPairs_5 : decode cX9_quarrellingPairs 5 = .ok (.aload_n 0, 1) := by decide +kernel
theorem dX9_quarrellingPairs_6 : decode cX9_quarrellingPairs 6 = .ok (.getfield 56, 3) := by decide +kernel
theorem dX9_quarrellingPairs_9 : decode cX9_quarrellingPairs 9 = .ok (.if_icmp .ge 26, 3) := by decide +kernel
theorem dX9_quarrellingPairs_12 : decode cX9_quarrellingPairs 12 = .ok (.iload_n 1, 1) := by decide +kernel
theorem dX9_quarrellingPairs_13 : decode cX9_quarrellingPairs 13 = .ok (.aload_n 0, 1) := by decide +kernel
theorem dX9_quarrellingPairs_14 : decode cX9_quarrellingPairs 14 = .ok (.getfield 12, 3) := by decide +kernel
theorem dX9_quarrellingPairs_17 : decode cX9_quarrellingPairs 17 = .ok (.getfield 103, 3) := by decide +kernel
theorem dX9_quarrellingPairs_20 : decode cX9_quarrellingPairs 20 = .ok (.iload_n 2, 1) := by decide +kernel
theorem dX9_quarrellingPairs_21 : decode cX9_quarrellingPairs 21 = .ok (.invokestatic 95, 3) := by decide +kernel
theorem dX9_quarrellingPairs_24 : decode cX9_quarrellingPairs 24 = .ok (.invokestatic 117, 3) := by decide +kernel
theorem dX9_quarrellingPairs_27 : decode cX9_quarrellingPairs 27 = .ok (.iadd, 1) := by decide +kernel
theorem dX9_quarrellingPairs_28 : decode cX9_quarrellingPairs 28 = .ok (.istore_n 1, 1) := by decide +kernel
theorem dX9_quarrellingPairs_29 : decode cX9_quarrellingPairs 29 = .ok (.iinc 2 1, 3) := by decide +kernel
theorem dX9_quarrellingPairs_32 : decode cX9_quarrellingPairs 32 = .ok (.goto (-28), 3) := by decide +kernel
theorem dX9_quarrellingPairs_35 : decode cX9_quarrellingPairs 35 = .ok (.iload_n 1, 1) := by decide +kernel
theorem dX9_quarrellingPairs_36 : decode cX9_quarrellingPairs 36 = .ok (.iconst 2, 1) := by decide +kernel
theorem dX9_quarrellingPairs_37 : decode cX9_quarrellingPairs 37 = .ok (.idiv, 1) := by decide +kernel
theorem dX9_quarrellingPairs_38 : decode cX9_quarrellingPairs 38 = .ok (.ireturn, 1) := by decide +kernel
theorem dX9_lettersOfOthers_0 : decode cX9_lettersOfOthers 0 = .ok (.iconst 0, 1) := by decide +kernel
theorem dX9_lettersOfOthers_1 : decode cX9_lettersOfOthers 1 = .ok (.istore_n 2, 1) := by decide +kernel
theorem dX9_lettersOfOthers_2 : decode cX9_lettersOfOthers 2 = .ok (.iconst 0, 1) := by decide +kernel
theorem dX9_lettersOfOthers_3 : decode cX9_lettersOfOthers 3 = .ok (.istore_n 3, 1) := by decide +kernel
theorem dX9_lettersOfOthers_4 : decode cX9_lettersOfOthers 4 = .ok (.iload_n 3, 1) := by decide +kernel
theorem dX9_lettersOfOthers_5 : decode cX9_lettersOfOthers 5 = .ok (.aload_n 0, 1) := by decide +kernel
theorem dX9_lettersOfOthers_6 : decode cX9_lettersOfOthers 6 = .ok (.getfield 56, 3) := by decide +kernel
theorem dX9_lettersOfOthers_9 : decode cX9_lettersOfOthers 9 = .ok (.if_icmp .ge 60, 3) := by decide +kernel
theorem dX9_lettersOfOthers_12 : decode cX9_lettersOfOthers 12 = .ok (.iload_n 3, 1) := by decide +kernel
theorem dX9_lettersOfOthers_13 : decode cX9_lettersOfOthers 13 = .ok (.iload_n 1, 1) := by decide +kernel
theorem dX9_lettersOfOthers_14 : decode cX9_lettersOfOthers 14 = .ok (.if_icmp .eq 49, 3) := by decide +kernel
theorem dX9_lettersOfOthers_17 : decode cX9_lettersOfOthers 17 = .ok (.iload_n 2, 1) := by decide +kernel
theorem dX9_lettersOfOthers_18 : decode cX9_lettersOfOthers 18 = .ok (.aload_n 0, 1) := by decide +kernel
theorem dX9_lettersOfOthers_19 : decode cX9_lettersOfOthers 19 = .ok (.getfield 12, 3) := by decide +kernel
theorem dX9_lettersOfOthers_22 : decode cX9_lettersOfOthers 22 = .ok (.getfield 64, 3) := by decide +kernel
theorem dX9_lettersOfOthers_25 : decode cX9_lettersOfOthers 25 = .ok (.iload_n 3, 1) := by decide +kernel
theorem dX9_lettersOfOthers_26 : decode cX9_lettersOfOthers 26 = .ok (.invokestatic 95, 3) := by decide +kernel
theorem dX9_lettersOfOthers_29 : decode cX9_lettersOfOthers 29 = .ok (.iload_n 1, 1) := by decide +kernel
theorem dX9_lettersOfOthers_30 : decode cX9_lettersOfOthers 30 = .ok (.if_icmp .ne 7, 3) := by decide +kernel
theorem dX9_lettersOfOthers_33 : decode cX9_lettersOfOthers 33 = .ok (.iconst 1, 1) := by decide +kernel
theorem dX9_lettersOfOthers_34 : decode cX9_lettersOfOthers 34 = .ok (.goto 4, 3) := by decide +kernel
end
section
theorem dX9_lettersOfOthers_37 : decode cX9_lettersOfOthers 37 = .ok (.iconst 0, 1) := by decide +kernel
theorem dX9_lettersOfOthers_38 : decode cX9_lettersOfOthers 38 = .ok (.iadd, 1) := by decide +kernel
theorem dX9_lettersOfOthers_39 : decode cX9_lettersOfOthers 39 = .ok (.istore_n 2, 1) := by decide +kernel
theorem dX9_lettersOfOthers_40 : decode cX9_lettersOfOthers 40 = .ok (.iload_n 2, 1) := by decide +kernel
theorem dX9_lettersOfOthers_41 : decode cX9_lettersOfOthers 41 = .ok (.aload_n 0, 1) := by decide +kernel
theorem dX9_lettersOfOthers_42 : decode cX9_lettersOfOthers 42 = .ok (.getfield 12, 3) := by decide +kernel
theorem dX9_lettersOfOthers_45 : decode cX9_lettersOfOthers 45 = .ok (.getfield 75, 3) := by decide +kernel
theorem dX9_lettersOfOthers_48 : decode cX9_lettersOfOthers 48 = .ok (.iload_n 3, 1) := by decide +kernel
theorem dX9_lettersOfOthers_49 : decode cX9_lettersOfOthers 49 = .ok (.invokestatic 95, 3) := by decide +kernel
theorem dX9_lettersOfOthers_52 : decode cX9_lettersOfOthers 52 = .ok (.iload_n 1, 1) := by decide +kernel
theorem dX9_lettersOfOthers_53 : decode cX9_lettersOfOthers 53 = .ok (.if_icmp .ne 7, 3) := by decide +kernel
theorem dX9_lettersOfOthers_56 : decode cX9_lettersOfOthers 56 = .ok (.iconst 1, 1) := by decide +kernel
theorem dX9_lettersOfOthers_57 : decode cX9_lettersOfOthers 57 = .ok (.goto 4, 3) := by decide +kernel
theorem dX9_lettersOfOthers_60 : decode cX9_lettersOfOthers 60 = .ok (.iconst 0, 1) := by decide +kernel
theorem dX9_lettersOfOthers_61 : decode cX9_lettersOfOthers 61 = .ok (.iadd, 1) := by decide +kernel
theorem dX9_lettersOfOthers_62 : decode cX9_lettersOfOthers 62 = .ok (.istore_n 2, 1) := by decide +kernel
theorem dX9_lettersOfOthers_63 : decode cX9_lettersOfOthers 63 = .ok (.iinc 3 1, 3) := by decide +kernel
theorem dX9_lettersOfOthers_66 : decode cX9_lettersOfOthers 66 = .ok (.goto (-62), 3) := by decide +kernel
theorem dX9_lettersOfOthers_69 : decode cX9_lettersOfOthers 69 = .ok (.iload_n 2, 1) := by decide +kernel
theorem dX9_lettersOfOthers_70 : decode cX9_lettersOfOthers 70 = .ok (.ireturn, 1) := by decide +kernel
theorem dX9_wants_0 : decode cX9_wants 0 = .ok (.iconst 1, 1) := by decide +kernel
theorem dX9_wants_1 : decode cX9_wants 1 = .ok (.aload_n 0, 1) := by decide +kernel
theorem dX9_wants_2 : decode cX9_wants 2 = .ok (.getfield 56, 3) := by decide +kernel
theorem dX9_wants_5 : decode cX9_wants 5 = .ok (.ishl, 1) := by decide +kernel
theorem dX9_wants_6 : decode cX9_wants 6 = .ok (.iconst 1, 1) := by decide +kernel
theorem dX9_wants_7 : decode cX9_wants 7 = .ok (.isub, 1) := by decide +kernel
theorem dX9_wants_8 : decode cX9_wants 8 = .ok (.istore_n 2, 1) := by decide +kernel
theorem dX9_wants_9 : decode cX9_wants 9 = .ok (.iconst 0, 1) := by decide +kernel
theorem dX9_wants_10 : decode cX9_wants 10 = .ok (.istore_n 3, 1) := by decide +kernel
theorem dX9_wants_11 : decode cX9_wants 11 = .ok (.iload_n 3, 1) := by decide +kernel
theorem dX9_wants_12 : decode cX9_wants 12 = .ok (.iconst 1, 1) := by decide +kernel
theorem dX9_wants_13 : decode cX9_wants 13 = .ok (.aload_n 0, 1) := by decide +kernel
theorem dX9_wants_14 : decode cX9_wants 14 = .ok (.getfield 56, 3) := by decide +kernel
theorem dX9_wants_17 : decode cX9_wants 17 = .ok (.ishl, 1) := by decide +kernel
theorem dX9_wants_18 : decode cX9_wants 18 = .ok (.if_icmp .ge 22, 3) := by decide +kernel
theorem dX9_wants_21 : decode cX9_wants 21 = .ok (.aload_n 0, 1) := by decide +kernel
theorem dX9_wants_22 : decode cX9_wants 22 = .ok (.iload_n 1, 1) := by decide +kernel
theorem dX9_wants_23 : decode cX9_wants 23 = .ok (.iload_n 3, 1) := by decide +kernel
theorem dX9_wants_24 : decode cX9_wants 24 = .ok (.invokevirtual 113, 3) := by decide +kernel
theorem dX9_wants_27 : decode cX9_wants 27 = .ok (.ifCond .eq 7, 3) := by decide +kernel
theorem dX9_wants_30 : decode cX9_wants 30 = .ok (.iload_n 2, 1) := by decide +kernel
theorem dX9_wants_31 : decode cX9_wants 31 = .ok (.iload_n 3, 1) := by decide +kernel
theorem dX9_wants_32 : decode cX9_wants 32 = .ok (.iand, 1) := by decide +kernel
theorem dX9_wants_33 : decode cX9_wants 33 = .ok (.istore_n 2, 1) := by decide +kernel
theorem dX9_wants_34 : decode cX9_wants 34 = .ok (.iinc 3 1, 3) := by decide +kernel
theorem dX9_wants_37 : decode cX9_wants 37 = .ok (.goto (-26), 3) := by decide +kernel
theorem dX9_wants_40 : decode cX9_wants 40 = .ok (.iload_n 2, 1) := by decide +kernel
theorem dX9_wants_41 : decode cX9_wants 41 = .ok (.iconst 1, 1) := by decide +kernel
theorem dX9_wants_42 : decode cX9_wants 42 = .ok (.iload_n 1, 1) := by decide +kernel
theorem dX9_wants_43 : decode cX9_wants 43 = .ok (.ishl, 1) := by decide +kernel
theorem dX9_wants_44 : decode cX9_wants 44 = .ok (.iconst (-1), 1) := by decide +kernel
theorem dX9_wants_45 : decode cX9_wants 45 = .ok (.ixor, 1) := by decide +kernel
theorem dX9_wants_46 : decode cX9_wants 46 = .ok (.iand, 1) := by decide +kernel
theorem dX9_wants_47 : decode cX9_wants 47 = .ok (.ireturn, 1) := by decide +kernel
theorem dX10_init_0 : decode cX10_init 0 = .ok (.aload_n 0, 1) := by decide +kernel
theorem dX10_init_1 : decode cX10_init 1 = .ok (.iconst 4, 1) := by decide +kernel
theorem dX10_init_2 : decode cX10_init 2 = .ok (.invokespecial 1, 3) := by decide +kernel
theorem dX10_init_5 : decode cX10_init 5 = .ok (.return_, 1) := by decide +kernel
theorem dX10_isSpelt_0 : decode cX10_isSpelt 0 = .ok (.iload_n 1, 1) := by decide +kernel
theorem dX10_isSpelt_1 : decode cX10_isSpelt 1 = .ok (.ireturn, 1) := by decide +kernel
theorem dX11_init_0 : decode cX11_init 0 = .ok (.aload_n 0, 1) := by decide +kernel
theorem dX11_init_1 : decode cX11_init 1 = .ok (.invokespecial 1, 3) := by decide +kernel
theorem dX11_init_4 : decode cX11_init 4 = .ok (.aload_n 0, 1) := by decide +kernel
theorem dX11_init_5 : decode cX11_init 5 = .ok (.new 7, 3) := by decide +kernel
theorem dX11_init_8 : decode cX11_init 8 = .ok (.dup, 1) := by decide +kernel
theorem dX11_init_9 : decode cX11_init 9 = .ok (.invokespecial 9, 3) := by decide +kernel
theorem dX11_init_12 : decode cX11_init 12 = .ok (.putfield 10, 3) := by decide +kernel
theorem dX11_init_15 : decode cX11_init 15 = .ok (.aload_n 0, 1) := by decide +kernel
theorem dX11_init_16 : decode cX11_init 16 = .ok (.new 16, 3) := by decide +kernel
theorem dX11_init_19 : decode cX11_init 19 = .ok (.dup, 1) := by decide +kernel
theorem dX11_init_20 : decode cX11_init 20 = .ok (.invokespecial 18, 3) := by decide +kernel
theorem dX11_init_23 : decode cX11_init 23 = .ok (.putfield 19, 3) := by decide +kernel
theorem dX11_init_26 : decode cX11_init 26 = .ok (.aload_n 0, 1) := by decide +kernel
theorem dX11_init_27 : decode cX11_init 27 = .ok (.new 23, 3) := by decide +kernel
theorem dX11_init_30 : decode cX11_init 30 = .ok (.dup, 1) := by decide +kernel
theorem dX11_init_31 : decode cX11_init 31 = .ok (.invokespecial 25, 3) := by decide +kernel
theorem dX11_init_34 : decode cX11_init 34 = .ok (.putfield 26, 3) := by decide +kernel
theorem dX11_init_37 : decode cX11_init 37 = .ok (.aload_n 0, 1) := by decide +kernel
theorem dX11_init_38 : decode cX11_init 38 = .ok (.new 30, 3) := by decide +kernel
theorem dX11_init_41 : decode cX11_init 41 = .ok (.dup, 1) := by decide +kernel
theorem dX11_init_42 : decode cX11_init 42 = .ok (.invokespecial 32, 3) := by decide +kernel
theorem dX11_init_45 : decode cX11_init 45 = .ok (.putfield 33, 3) := by decide +kernel
theorem dX11_init_48 : decode cX11_init 48 = .ok (.aload_n 0, 1) := by decide +kernel
theorem dX11_init_49 : decode cX11_init 49 = .ok (.new 37, 3) := by decide +kernel
theorem dX11_init_52 : decode cX11_init 52 = .ok (.dup, 1) := by decide +kernel
theorem dX11_init_53 : decode cX11_init 53 = .ok (.invokespecial 39, 3) := by decide +kernel
theorem dX11_init_56 : decode cX11_init 56 = .ok (.putfield 40, 3) := by decide +kernel
theorem dX11_init_59 : decode cX11_init 59 = .ok (.aload_n 0, 1) := by decide +kernel
theorem dX11_init_60 : decode cX11_init 60 = .ok (.new 44, 3) := by decide +kernel
theorem dX11_init_63 : decode cX11_init 63 = .ok (.dup, 1) := by decide +kernel
theorem dX11_init_64 : decode cX11_init 64 = .ok (.invokespecial 46, 3) := by decide +kernel
theorem dX11_init_67 : decode cX11_init 67 = .ok (.putfield 47, 3) := by decide +kernel
theorem dX11_init_70 : decode cX11_init 70 = .ok (.return_, 1) := by decide +kernel
theorem dX11_letter_0 : decode cX11_letter 0 = .ok (.iload_n 1, 1) := by decide +kernel
theorem dX11_letter_1 : decode cX11_letter 1 = .ok (.bipush 32, 2) := by decide +kernel
theorem dX11_letter_3 : decode cX11_letter 3 = .ok (.if_icmp .lt 9, 3) := by decide +kernel
theorem dX11_letter_6 : decode cX11_letter 6 = .ok (.iload_n 1, 1) := by decide +kernel
theorem dX11_letter_7 : decode cX11_letter 7 = .ok (.bipush 126, 2) := by decide +kernel
theorem dX11_letter_9 : decode cX11_letter 9 = .ok (.if_icmp .le 6, 3) := by decide +kernel
theorem dX11_letter_12 : decode cX11_letter 12 = .ok (.bipush (-102), 2) := by decide +kernel
theorem dX11_letter_14 : decode cX11_letter 14 = .ok (.ireturn, 1) := by decide +kernel
theorem dX11_letter_15 : decode cX11_letter 15 = .ok (.aload_n 0, 1) := by decide +kernel
theorem dX11_letter_16 : decode cX11_letter 16 = .ok (.getfield 10, 3) := by decide +kernel
theorem dX11_letter_19 : decode cX11_letter 19 = .ok (.iload_n 1, 1) := by decide +kernel
theorem dX11_letter_20 : decode cX11_letter 20 = .ok (.invokevirtual 51, 3) := by decide +kernel
theorem dX11_letter_23 : decode cX11_letter 23 = .ok (.ifCond .eq 13, 3) := by decide +kernel
theorem dX11_letter_26 : decode cX11_letter 26 = .ok (.aload_n 0, 1) := by decide +kernel
theorem dX11_letter_27 : decode cX11_letter 27 = .ok (.getfield 10, 3) := by decide +kernel
theorem dX11_letter_30 : decode cX11_letter 30 = .ok (.getfield 55, 3) := by decide +kernel
theorem dX11_letter_33 : decode cX11_letter 33 = .ok (.goto 5, 3) := by decide +kernel
theorem dX11_letter_36 : decode cX11_letter 36 = .ok (.bipush (-104), 2) := by decide +kernel
theorem dX11_letter_38 : decode cX11_letter 38 = .ok (.ireturn, 1) := by decide +kernel
theorem dX11_blank_0 : decode cX11_blank 0 = .ok (.aload_n 0, 1) := by decide +kernel
theorem dX11_blank_1 : decode cX11_blank 1 = .ok (.getfield 10, 3) := by decide +kernel
theorem dX11_blank_4 : decode cX11_blank 4 = .ok (.getfield 55, 3) := by decide +kernel
theorem dX11_blank_7 : decode cX11_blank 7 = .ok (.istore_n 1, 1) := by decide +kernel
theorem dX11_blank_8 : decode cX11_blank 8 = .ok (.aload_n 0, 1) := by decide +kernel
theorem dX11_blank_9 : decode cX11_blank 9 = .ok (.getfield 10, 3) := by decide +kernel
theorem dX11_blank_12 : decode cX11_blank 12 = .ok (.iconst 0, 1) := by decide +kernel
theorem dX11_blank_13 : decode cX11_blank 13 = .ok (.putfield 55, 3) := by decide +kernel
theorem dX11_blank_16 : decode cX11_blank 16 = .ok (.iload_n 1, 1) := by decide +kernel
theorem dX11_blank_17 : decode cX11_blank 17 = .ok (.ireturn, 1) := by decide +kernel
theorem dX11_fault_0 : decode cX11_fault 0 = .ok (.aload_n 0, 1) := by decide +kernel
theorem dX11_fault_1 : decode cX11_fault 1 = .ok (.getfield 10, 3) := by decide +kernel
theorem dX11_fault_4 : decode cX11_fault 4 = .ok (.invokevirtual 59, 3) := by decide +kernel
theorem dX11_fault_7 : decode cX11_fault 7 = .ok (.ireturn, 1) := by decide +kernel
theorem dX11_town_0 : decode cX11_town 0 = .ok (.aload_n 0, 1) := by decide +kernel
theorem dX11_town_1 : decode cX11_town 1 = .ok (.getfield 10, 3) := by decide +kernel
theorem dX11_town_4 : decode cX11_town 4 = .ok (.invokevirtual 63, 3) := by decide +kernel
theorem dX11_town_7 : decode cX11_town 7 = .ok (.ifCond .ne 6, 3) := by decide +kernel
theorem dX11_town_10 : decode cX11_town 10 = .ok (.bipush (-103), 2) := by decide +kernel
theorem dX11_town_12 : decode cX11_town 12 = .ok (.ireturn, 1) := by decide +kernel
theorem dX11_town_13 : decode cX11_town 13 = .ok (.aload_n 0, 1) := by decide +kernel
theorem dX11_town_14 : decode cX11_town 14 = .ok (.getfield 19, 3) := by decide +kernel
theorem dX11_town_17 : decode cX11_town 17 = .ok (.aload_n 0, 1) := by decide +kernel
theorem dX11_town_18 : decode cX11_town 18 = .ok (.getfield 10, 3) := by decide +kernel
theorem dX11_town_21 : decode cX11_town 21 = .ok (.invokevirtual 67, 3) := by decide +kernel
theorem dX11_town_24 : decode cX11_town 24 = .ok (.aload_n 0, 1) := by decide +kernel
theorem dX11_town_25 : decode cX11_town 25 = .ok (.getfield 10, 3) := by decide +kernel
theorem dX11_town_28 : decode cX11_town 28 = .ok (.iconst 0, 1) := by decide +kernel
theorem dX11_town_29 : decode cX11_town 29 = .ok (.putfield 55, 3) := by decide +kernel
theorem dX11_town_32 : decode cX11_town 32 = .ok (.aload_n 0, 1) := by decide +kernel
theorem dX11_town_33 : decode cX11_town 33 = .ok (.dup, 1) := by decide +kernel
theorem dX11_town_34 : decode cX11_town 34 = .ok (.getfield 71, 3) := by decide +kernel
theorem dX11_town_37 : decode cX11_town 37 = .ok (.iconst 1, 1) := by decide +kernel
theorem dX11_town_38 : decode cX11_town 38 = .ok (.iadd, 1) := by decide +kernel
theorem dX11_town_39 : decode cX11_town 39 = .ok (.putfield 71, 3) := by decide +kernel
theorem dX11_town_42 : decode cX11_town 42 = .ok (.aload_n 0, 1) := by decide +kernel
theorem dX11_town_43 : decode cX11_town 43 = .ok (.getfield 19, 3) := by decide +kernel
theorem dX11_town_46 : decode cX11_town 46 = .ok (.getfield 74, 3) := by decide +kernel
theorem dX11_town_49 : decode cX11_town 49 = .ok (.ireturn, 1) := by decide +kernel
theorem dX11_about_0 : decode cX11_about 0 = .ok (.aload_n 0, 1) := by decide +kernel
theorem dX11_about_1 : decode cX11_about 1 = .ok (.getfield 19, 3) := by decide +kernel
theorem dX11_about_4 : decode cX11_about 4 = .ok (.iload_n 1, 1) := by decide +kernel
theorem dX11_about_5 : decode cX11_about 5 = .ok (.invokevirtual 77, 3) := by decide +kernel
theorem dX11_about_8 : decode cX11_about 8 = .ok (.ifCond .ne 6, 3) := by decide +kernel
theorem dX11_about_11 : decode cX11_about 11 = .ok (.bipush (-101), 2) := by decide +kernel
theorem dX11_about_13 : decode cX11_about 13 = .ok (.ireturn, 1) := by decide +kernel
theorem dX11_about_14 : decode cX11_about 14 = .ok (.iload_n 2, 1) := by decide +kernel
theorem dX11_about_15 : decode cX11_about 15 = .ok (.ifCond .lt 9, 3) := by decide +kernel
theorem dX11_about_18 : decode cX11_about 18 = .ok (.iload_n 2, 1) := by decide +kernel
theorem dX11_about_19 : decode cX11_about 19 = .ok (.bipush 9, 2) := by decide +kernel
theorem dX11_about_21 : decode cX11_about 21 = .ok (.if_icmp .lt 6, 3) := by decide +kernel
theorem dX11_about_24 : decode cX11_about 24 = .ok (.bipush (-102), 2) := by decide +kernel
theorem dX11_about_26 : decode cX11_about 26 = .ok (.ireturn, 1) := by decide +kernel
theorem dX11_about_27 : decode cX11_about 27 = .ok (.aload_n 0, 1) := by decide +kernel
theorem dX11_about_28 : decode cX11_about 28 = .ok (.iload_n 1, 1) := by decide +kernel
theorem dX11_about_29 : decode cX11_about 29 = .ok (.iload_n 2, 1) := by decide +kernel
theorem dX11_about_30 : decode cX11_about 30 = .ok (.invokevirtual 80, 3) := by decide +kernel
theorem dX11_about_33 : decode cX11_about 33 = .ok (.ireturn, 1) := by decide +kernel
theorem dX11_as_0 : decode cX11_as 0 = .ok (.aload_n 0, 1) := by decide +kernel
theorem dX11_as_1 : decode cX11_as 1 = .ok (.getfield 19, 3) := by decide +kernel
theorem dX11_as_4 : decode cX11_as 4 = .ok (.iload_n 1, 1) := by decide +kernel
theorem dX11_as_5 : decode cX11_as 5 = .ok (.invokevirtual 77, 3) := by decide +kernel
theorem dX11_as_8 : decode cX11_as 8 = .ok (.ifCond .ne 6, 3) := by decide +kernel
theorem dX11_as_11 : decode cX11_as 11 = .ok (.bipush (-101), 2) := by decide +kernel
theorem dX11_as_13 : decode cX11_as 13 = .ok (.ireturn, 1) := by decide +kernel
theorem dX11_as_14 : decode cX11_as 14 = .ok (.iload_n 2, 1) := by decide +kernel
theorem dX11_as_15 : decode cX11_as 15 = .ok (.ifCond .lt 8, 3) := by decide +kernel
theorem dX11_as_18 : decode cX11_as 18 = .ok (.iload_n 2, 1) := by decide +kernel
theorem dX11_as_19 : decode cX11_as 19 = .ok (.iconst 5, 1) := by decide +kernel
theorem dX11_as_20 : decode cX11_as 20 = .ok (.if_icmp .lt 6, 3) := by decide +kernel
theorem dX11_as_23 : decode cX11_as 23 = .ok (.bipush (-102), 2) := by decide +kernel
theorem dX11_as_25 : decode cX11_as 25 = .ok (.ireturn, 1) := by decide +kernel
theorem dX11_as_26 : decode cX11_as 26 = .ok (.aload_n 0, 1) := by decide +kernel
theorem dX11_as_27 : decode cX11_as 27 = .ok (.getfield 19, 3) := by decide +kernel
theorem dX11_as_30 : decode cX11_as 30 = .ok (.iload_n 1, 1) := by decide +kernel
theorem dX11_as_31 : decode cX11_as 31 = .ok (.invokevirtual 84, 3) := by decide +kernel
theorem dX11_as_34 : decode cX11_as 34 = .ok (.iload_n 2, 1) := by decide +kernel
theorem dX11_as_35 : decode cX11_as 35 = .ok (.invokestatic 88, 3) := by decide +kernel
theorem dX11_as_38 : decode cX11_as 38 = .ok (.ifCond .eq 7, 3) := by decide +kernel
theorem dX11_as_41 : decode cX11_as 41 = .ok (.iload_n 1, 1) := by decide +kernel
theorem dX11_as_42 : decode cX11_as 42 = .ok (.goto 4, 3) := by decide +kernel
theorem dX11_as_45 : decode cX11_as 45 = .ok (.iconst (-1), 1) := by decide +kernel
theorem dX11_as_46 : decode cX11_as 46 = .ok (.ireturn, 1) := by decide +kernel
theorem dX11_go_0 : decode cX11_go 0 = .ok (.aload_n 0, 1) := by decide +kernel
theorem dX11_go_1 : decode cX11_go 1 = .ok (.getfield 19, 3) := by decide +kernel
theorem dX11_go_4 : decode cX11_go 4 = .ok (.iload_n 1, 1) := by decide +kernel
theorem dX11_go_5 : decode cX11_go 5 = .ok (.invokevirtual 77, 3) := by decide +kernel
theorem dX11_go_8 : decode cX11_go 8 = .ok (.ifCond .ne 6, 3) := by decide +kernel
theorem dX11_go_11 : decode cX11_go 11 = .ok (.bipush (-101), 2) := by decide +kernel
theorem dX11_go_13 : decode cX11_go 13 = .ok (.ireturn, 1) := by decide +kernel
theorem dX11_go_14 : decode cX11_go 14 = .ok (.iload_n 2, 1) := by decide +kernel
theorem dX11_go_15 : decode cX11_go 15 = .ok (.ifCond .lt 8, 3) := by decide +kernel
theorem dX11_go_18 : decode cX11_go 18 = .ok (.iload_n 2, 1) := by decide +kernel
theorem dX11_go_19 : decode cX11_go 19 = .ok (.iconst 4, 1) := by decide +kernel
theorem dX11_go_20 : decode cX11_go 20 = .ok (.if_icmp .lt 6, 3) := by decide +kernel
theorem dX11_go_23 : decode cX11_go 23 = .ok (.bipush (-102), 2) := by decide +kernel
theorem dX11_go_25 : decode cX11_go 25 = .ok (.ireturn, 1) := by decide +kernel
theorem dX11_go_26 : decode cX11_go 26 = .ok (.aload_n 0, 1) := by decide +kernel
theorem dX11_go_27 : decode cX11_go 27 = .ok (.getfield 19, 3) := by decide +kernel
theorem dX11_go_30 : decode cX11_go 30 = .ok (.getfield 92, 3) := by decide +kernel
theorem dX11_go_33 : decode cX11_go 33 = .ok (.astore_n 3, 1) := by decide +kernel
theorem dX11_go_34 : decode cX11_go 34 = .ok (.aload_n 3, 1) := by decide +kernel
theorem dX11_go_35 : decode cX11_go 35 = .ok (.getfield 95, 3) := by decide +kernel
theorem dX11_go_38 : decode cX11_go 38 = .ok (.iload_n 1, 1) := by decide +kernel
theorem dX11_go_39 : decode cX11_go 39 = .ok (.invokestatic 98, 3) := by decide +kernel
theorem dX11_go_42 : decode cX11_go 42 = .ok (.istore 4, 2) := by decide +kernel
theorem dX11_go_44 : decode cX11_go 44 = .ok (.aload_n 3, 1) := by decide +kernel
theorem dX11_go_45 : decode cX11_go 45 = .ok (.aload_n 3, 1) := by decide +kernel
theorem dX11_go_46 : decode cX11_go 46 = .ok (.getfield 95, 3) := by decide +kernel
theorem dX11_go_49 : decode cX11_go 49 = .ok (.iload_n 1, 1) := by decide +kernel
theorem dX11_go_50 : decode cX11_go 50 = .ok (.iload_n 2, 1) := by decide +kernel
theorem dX11_go_51 : decode cX11_go 51 = .ok (.invokestatic 101, 3) := by decide +kernel
theorem dX11_go_54 : decode cX11_go 54 = .ok (.putfield 95, 3) := by decide +kernel
theorem dX11_go_57 : decode cX11_go 57 = .ok (.aload_n 3, 1) := by decide +kernel
theorem dX11_go_58 : decode cX11_go 58 = .ok (.dup, 1) := by decide +kernel
theorem dX11_go_59 : decode cX11_go 59 = .ok (.getfield 105, 3) := by decide +kernel
theorem dX11_go_62 : decode cX11_go 62 = .ok (.iconst 1, 1) := by decide +kernel
theorem dX11_go_63 : decode cX11_go 63 = .ok (.iadd, 1) := by decide +kernel
theorem dX11_go_64 : decode cX11_go 64 = .ok (.putfield 105, 3) := by decide +kernel
theorem dX11_go_67 : decode cX11_go 67 = .ok (.iload 4, 2) := by decide +kernel
theorem dX11_go_69 : decode cX11_go 69 = .ok (.ireturn, 1) := by decide +kernel
theorem dX11_sell_0 : decode cX11_sell 0 = .ok (.aload_n 0, 1) := by decide +kernel
theorem dX11_sell_1 : decode cX11_sell 1 = .ok (.getfield 19, 3) := by decide +kernel
theorem dX11_sell_4 : decode cX11_sell 4 = .ok (.iload_n 1, 1) := by decide +kernel
theorem dX11_sell_5 : decode cX11_sell 5 = .ok (.invokevirtual 77, 3) := by decide +kernel
theorem dX11_sell_8 : decode cX11_sell 8 = .ok (.ifCond .eq 14, 3) := by decide +kernel
theorem dX11_sell_11 : decode cX11_sell 11 = .ok (.aload_n 0, 1) := by decide +kernel
theorem dX11_sell_12 : decode cX11_sell 12 = .ok (.getfield 19, 3) := by decide +kernel
theorem dX11_sell_15 : decode cX11_sell 15 = .ok (.iload_n 3, 1) := by decide +kernel
theorem dX11_sell_16 : decode cX11_sell 16 = .ok (.invokevirtual 77, 3) := by decide +kernel
theorem dX11_sell_19 : decode cX11_sell 19 = .ok (.ifCond .ne 6, 3) := by decide +kernel
theorem dX11_sell_22 : decode cX11_sell 22 = .ok (.bipush (-101), 2) := by decide +kernel
theorem dX11_sell_24 : decode cX11_sell 24 = .ok (.ireturn, 1) := by decide +kernel
theorem dX11_sell_25 : decode cX11_sell 25 = .ok (.iload_n 2, 1) := by decide +kernel
theorem dX11_sell_26 : decode cX11_sell 26 = .ok (.ifCond .lt 8, 3) := by decide +kernel
theorem dX11_sell_29 : decode cX11_sell 29 = .ok (.iload_n 2, 1) := by decide +kernel
theorem dX11_sell_30 : decode cX11_sell 30 = .ok (.iconst 1, 1) := by decide +kernel
theorem dX11_sell_31 : decode cX11_sell 31 = .ok (.if_icmp .le 6, 3) := by decide +kernel
theorem dX11_sell_34 : decode cX11_sell 34 = .ok (.bipush (-102), 2) := by decide +kernel
theorem dX11_sell_36 : decode cX11_sell 36 = .ok (.ireturn, 1) := by decide +kernel
theorem dX11_sell_37 : decode cX11_sell 37 = .ok (.aload_n 0, 1) := by decide +kernel
theorem dX11_sell_38 : decode cX11_sell 38 = .ok (.getfield 19, 3) := by decide +kernel
theorem dX11_sell_41 : decode cX11_sell 41 = .ok (.getfield 92, 3) := by decide +kernel
theorem dX11_sell_44 : decode cX11_sell 44 = .ok (.astore 4, 2) := by decide +kernel
theorem dX11_sell_46 : decode cX11_sell 46 = .ok (.iload_n 2, 1) := by decide +kernel
theorem dX11_sell_47 : decode cX11_sell 47 = .ok (.ifCond .ne 11, 3) := by decide +kernel
theorem dX11_sell_50 : decode cX11_sell 50 = .ok (.aload 4, 2) := by decide +kernel
theorem dX11_sell_52 : decode cX11_sell 52 = .ok (.getfield 108, 3) := by decide +kernel
theorem dX11_sell_55 : decode cX11_sell 55 = .ok (.goto 8, 3) := by decide +kernel
theorem dX11_sell_58 : decode cX11_sell 58 = .ok (.aload 4, 2) := by decide +kernel
theorem dX11_sell_60 : decode cX11_sell 60 = .ok (.getfield 112, 3) := by decide +kernel
theorem dX11_sell_63 : decode cX11_sell 63 = .ok (.astore 5, 2) := by decide +kernel
theorem dX11_sell_65 : decode cX11_sell 65 = .ok (.aload 5, 2) := by decide +kernel
theorem dX11_sell_67 : decode cX11_sell 67 = .ok (.iload_n 1, 1) := by decide +kernel
theorem dX11_sell_68 : decode cX11_sell 68 = .ok (.invokestatic 115, 3) := by decide +kernel
theorem dX11_sell_71 : decode cX11_sell 71 = .ok (.istore 6, 2) := by decide +kernel
theorem dX11_sell_73 : decode cX11_sell 73 = .ok (.aload 5, 2) := by decide +kernel
theorem dX11_sell_75 : decode cX11_sell 75 = .ok (.iload_n 1, 1) := by decide +kernel
theorem dX11_sell_76 : decode cX11_sell 76 = .ok (.iload_n 3, 1) := by decide +kernel
theorem dX11_sell_77 : decode cX11_sell 77 = .ok (.invokestatic 119, 3) := by decide +kernel
theorem dX11_sell_80 : decode cX11_sell 80 = .ok (.aload 4, 2) := by decide +kernel
theorem dX11_sell_82 : decode cX11_sell 82 = .ok (.dup, 1) := by decide +kernel
theorem dX11_sell_83 : decode cX11_sell 83 = .ok (.getfield 123, 3) := by decide +kernel
theorem dX11_sell_86 : decode cX11_sell 86 = .ok (.iconst 1, 1) := by decide +kernel
theorem dX11_sell_87 : decode cX11_sell 87 = .ok (.iadd, 1) := by decide +kernel
theorem dX11_sell_88 : decode cX11_sell 88 = .ok (.putfield 123, 3) := by decide +kernel
theorem dX11_sell_91 : decode cX11_sell 91 = .ok (.iload 6, 2) := by decide +kernel
theorem dX11_sell_93 : decode cX11_sell 93 = .ok (.ireturn, 1) := by decide +kernel
theorem dX11_quarrel_0 : decode cX11_quarrel 0 = .ok (.aload_n 0, 1) := by decide +kernel
theorem dX11_quarrel_1 : decode cX11_quarrel 1 = .ok (.getfield 19, 3) := by decide +kernel
theorem dX11_quarrel_4 : decode cX11_quarrel 4 = .ok (.iload_n 1, 1) := by decide +kernel
theorem dX11_quarrel_5 : decode cX11_quarrel 5 = .ok (.invokevirtual 77, 3) := by decide +kernel
theorem dX11_quarrel_8 : decode cX11_quarrel 8 = .ok (.ifCond .eq 19, 3) := by decide +kernel
theorem dX11_quarrel_11 : decode cX11_quarrel 11 = .ok (.aload_n 0, 1) := by decide +kernel
theorem dX11_quarrel_12 : decode cX11_quarrel 12 = .ok (.getfield 19, 3) := by decide +kernel
theorem dX11_quarrel_15 : decode cX11_quarrel 15 = .ok (.iload_n 2, 1) := by decide +kernel
theorem dX11_quarrel_16 : decode cX11_quarrel 16 = .ok (.invokevirtual 77, 3) := by decide +kernel
theorem dX11_quarrel_19 : decode cX11_quarrel 19 = .ok (.ifCond .eq 8, 3) := by decide +kernel
theorem dX11_quarrel_22 : decode cX11_quarrel 22 = .ok (.iload_n 1, 1) := by decide +kernel
theorem dX11_quarrel_23 : decode cX11_quarrel 23 = .ok (.iload_n 2, 1) := by decide +kernel
theorem dX11_quarrel_24 : decode cX11_quarrel 24 = .ok (.if_icmp .ne 6, 3) := by decide +kernel
theorem dX11_quarrel_27 : decode cX11_quarrel 27 = .ok (.bipush (-101), 2) := by decide +kernel
theorem dX11_quarrel_29 : decode cX11_quarrel 29 = .ok (.ireturn, 1) := by decide +kernel
theorem dX11_quarrel_30 : decode cX11_quarrel 30 = .ok (.aload_n 0, 1) := by decide +kernel
theorem dX11_quarrel_31 : decode cX11_quarrel 31 = .ok (.getfield 19, 3) := by decide +kernel
theorem dX11_quarrel_34 : decode cX11_quarrel 34 = .ok (.getfield 92, 3) := by decide +kernel
theorem dX11_quarrel_37 : decode cX11_quarrel 37 = .ok (.astore 4, 2) := by decide +kernel
theorem dX11_quarrel_39 : decode cX11_quarrel 39 = .ok (.aload 4, 2) := by decide +kernel
theorem dX11_quarrel_41 : decode cX11_quarrel 41 = .ok (.getfield 126, 3) := by decide +kernel
theorem dX11_quarrel_44 : decode cX11_quarrel 44 = .ok (.iload_n 1, 1) := by decide +kernel
theorem dX11_quarrel_45 : decode cX11_quarrel 45 = .ok (.invokestatic 115, 3) := by decide +kernel
theorem dX11_quarrel_48 : decode cX11_quarrel 48 = .ok (.iload_n 2, 1) := by decide +kernel
theorem dX11_quarrel_49 : decode cX11_quarrel 49 = .ok (.ishr, 1) := by decide +kernel
theorem dX11_quarrel_50 : decode cX11_quarrel 50 = .ok (.iconst 1, 1) := by decide +kernel
theorem dX11_quarrel_51 : decode cX11_quarrel 51 = .ok (.iand, 1) := by decide +kernel
theorem dX11_quarrel_52 : decode cX11_quarrel 52 = .ok (.istore 5, 2) := by decide +kernel
theorem dX11_quarrel_54 : decode cX11_quarrel 54 = .ok (.aload 4, 2) := by decide +kernel
theorem dX11_quarrel_56 : decode cX11_quarrel 56 = .ok (.iload_n 1, 1) := by decide +kernel
theorem dX11_quarrel_57 : decode cX11_quarrel 57 = .ok (.iload_n 2, 1) := by decide +kernel
theorem dX11_quarrel_58 : decode cX11_quarrel 58 = .ok (.iload_n 3, 1) := by decide +kernel
theorem dX11_quarrel_59 : decode cX11_quarrel 59 = .ok (.invokevirtual 129, 3) := by decide +kernel
theorem dX11_quarrel_62 : decode cX11_quarrel 62 = .ok (.aload 4, 2) := by decide +kernel
theorem dX11_quarrel_64 : decode cX11_quarrel 64 = .ok (.iload_n 2, 1) := by decide +kernel
theorem dX11_quarrel_65 : decode cX11_quarrel 65 = .ok (.iload_n 1, 1) := by decide +kernel
theorem dX11_quarrel_66 : decode cX11_quarrel 66 = .ok (.iload_n 3, 1) := by decide +kernel
theorem dX11_quarrel_67 : decode cX11_quarrel 67 = .ok (.invokevirtual 129, 3) := by decide +kernel
theorem dX11_quarrel_70 : decode cX11_quarrel 70 = .ok (.iload 5, 2) := by decide +kernel
theorem dX11_quarrel_72 : decode cX11_quarrel 72 = .ok (.ireturn, 1) := by decide +kernel
theorem dX11_written_0 : decode cX11_written 0 = .ok (.aload_n 0, 1) := by decide +kernel
theorem dX11_written_1 : decode cX11_written 1 = .ok (.getfield 19, 3) := by decide +kernel
theorem dX11_written_4 : decode cX11_written 4 = .ok (.iload_n 1, 1) := by decide +kernel
theorem dX11_written_5 : decode cX11_written 5 = .ok (.invokevirtual 77, 3) := by decide +kernel
theorem dX11_written_8 : decode cX11_written 8 = .ok (.ifCond .ne 6, 3) := by decide +kernel
theorem dX11_written_11 : decode cX11_written 11 = .ok (.bipush (-101), 2) := by decide +kernel
theorem dX11_written_13 : decode cX11_written 13 = .ok (.ireturn, 1) := by decide +kernel
theorem dX11_written_14 : decode cX11_written 14 = .ok (.aload_n 0, 1) := by decide +kernel
theorem dX11_written_15 : decode cX11_written 15 = .ok (.getfield 19, 3) := by decide +kernel
theorem dX11_written_18 : decode cX11_written 18 = .ok (.iload_n 1, 1) := by decide +kernel
theorem dX11_written_19 : decode cX11_written 19 = .ok (.iload_n 2, 1) := by decide +kernel
theorem dX11_written_20 : decode cX11_written 20 = .ok (.invokevirtual 133, 3) := by decide +kernel
theorem dX11_written_23 : decode cX11_written 23 = .ok (.ifCond .ne 6, 3) := by decide +kernel
theorem dX11_written_26 : decode cX11_written 26 = .ok (.bipush (-102), 2) := by decide +kernel
theorem dX11_written_28 : decode cX11_written 28 = .ok (.ireturn, 1) := by decide +kernel
theorem dX11_written_29 : decode cX11_written 29 = .ok (.aload_n 0, 1) := by decide +kernel
theorem dX11_written_30 : decode cX11_written 30 = .ok (.getfield 19, 3) := by decide +kernel
theorem dX11_written_33 : decode cX11_written 33 = .ok (.iload_n 1, 1) := by decide +kernel
theorem dX11_written_34 : decode cX11_written 34 = .ok (.iload_n 2, 1) := by decide +kernel
theorem dX11_written_35 : decode cX11_written 35 = .ok (.invokevirtual 137, 3) := by decide +kernel
theorem dX11_written_38 : decode cX11_written 38 = .ok (.ifCond .eq 7, 3) := by decide +kernel
theorem dX11_written_41 : decode cX11_written 41 = .ok (.iconst 1, 1) := by decide +kernel
theorem dX11_written_42 : decode cX11_written 42 = .ok (.goto 4, 3) := by decide +kernel
theorem dX11_written_45 : decode cX11_written 45 = .ok (.iconst 0, 1) := by decide +kernel
theorem dX11_written_46 : decode cX11_written 46 = .ok (.ireturn, 1) := by decide +kernel
theorem dX11_moves_0 : decode cX11_moves 0 = .ok (.aload_n 0, 1) := by decide +kernel
theorem dX11_moves_1 : decode cX11_moves 1 = .ok (.getfield 19, 3) := by decide +kernel
theorem dX11_moves_4 : decode cX11_moves 4 = .ok (.iload_n 1, 1) := by decide +kernel
theorem dX11_moves_5 : decode cX11_moves 5 = .ok (.invokevirtual 77, 3) := by decide +kernel
theorem dX11_moves_8 : decode cX11_moves 8 = .ok (.ifCond .ne 6, 3) := by decide +kernel
theorem dX11_moves_11 : decode cX11_moves 11 = .ok (.bipush (-101), 2) := by decide +kernel
theorem dX11_moves_13 : decode cX11_moves 13 = .ok (.ireturn, 1) := by decide +kernel
theorem dX11_moves_14 : decode cX11_moves 14 = .ok (.iload_n 2, 1) := by decide +kernel
theorem dX11_moves_15 : decode cX11_moves 15 = .ok (.ifCond .eq 18, 3) := by decide +kernel
theorem dX11_moves_18 : decode cX11_moves 18 = .ok (.iload_n 2, 1) := by decide +kernel
theorem dX11_moves_19 : decode cX11_moves 19 = .ok (.bipush 10, 2) := by decide +kernel
theorem dX11_moves_21 : decode cX11_moves 21 = .ok (.if_icmp .lt 9, 3) := by decide +kernel
theorem dX11_moves_24 : decode cX11_moves 24 = .ok (.iload_n 2, 1) := by decide +kernel
theorem dX11_moves_25 : decode cX11_moves 25 = .ok (.bipush 15, 2) := by decide +kernel
theorem dX11_moves_27 : decode cX11_moves 27 = .ok (.if_icmp .lt 6, 3) := by decide +kernel
theorem dX11_moves_30 : decode cX11_moves 30 = .ok (.bipush (-102), 2) := by decide +kernel
theorem dX11_moves_32 : decode cX11_moves 32 = .ok (.ireturn, 1) := by decide +kernel
theorem dX11_moves_33 : decode cX11_moves 33 = .ok (.aload_n 0, 1) := by decide +kernel
theorem dX11_moves_34 : decode cX11_moves 34 = .ok (.getfield 140, 3) := by decide +kernel
theorem dX11_moves_37 : decode cX11_moves 37 = .ok (.bipush 40, 2) := by decide +kernel
theorem dX11_moves_39 : decode cX11_moves 39 = .ok (.if_icmp .lt 6, 3) := by decide +kernel
theorem dX11_moves_42 : decode cX11_moves 42 = .ok (.bipush (-103), 2) := by decide +kernel
theorem dX11_moves_44 : decode cX11_moves 44 = .ok (.ireturn, 1) := by decide +kernel
theorem dX11_moves_45 : decode cX11_moves 45 = .ok (.aload_n 0, 1) := by decide +kernel
theorem dX11_moves_46 : decode cX11_moves 46 = .ok (.dup, 1) := by decide +kernel
theorem dX11_moves_47 : decode cX11_moves 47 = .ok (.getfield 140, 3) := by decide +kernel
theorem dX11_moves_50 : decode cX11_moves 50 = .ok (.iconst 1, 1) := by decide +kernel
theorem dX11_moves_51 : decode cX11_moves 51 = .ok (.iadd, 1) := by decide +kernel
theorem dX11_moves_52 : decode cX11_moves 52 = .ok (.putfield 140, 3) := by decide +kernel
theorem dX11_moves_55 : decode cX11_moves 55 = .ok (.aload_n 0, 1) := by decide +kernel
theorem dX11_moves_56 : decode cX11_moves 56 = .ok (.getfield 33, 3) := by decide +kernel
theorem dX11_moves_59 : decode cX11_moves 59 = .ok (.aload_n 0, 1) := by decide +kernel
theorem dX11_moves_60 : decode cX11_moves 60 = .ok (.getfield 19, 3) := by decide +kernel
theorem dX11_moves_63 : decode cX11_moves 63 = .ok (.iload_n 1, 1) := by decide +kernel
theorem dX11_moves_64 : decode cX11_moves 64 = .ok (.invokevirtual 143, 3) := by decide +kernel
theorem dX11_moves_67 : decode cX11_moves 67 = .ok (.istore_n 3, 1) := by decide +kernel
theorem dX11_moves_68 : decode cX11_moves 68 = .ok (.iload_n 3, 1) := by decide +kernel
theorem dX11_moves_69 : decode cX11_moves 69 = .ok (.iconst (-1), 1) := by decide +kernel
theorem dX11_moves_70 : decode cX11_moves 70 = .ok (.if_icmp .eq 7, 3) := by decide +kernel
theorem dX11_moves_73 : decode cX11_moves 73 = .ok (.iload_n 2, 1) := by decide +kernel
theorem dX11_moves_74 : decode cX11_moves 74 = .ok (.ifCond .ne 5, 3) := by decide +kernel
theorem dX11_moves_77 : decode cX11_moves 77 = .ok (.iload_n 3, 1) := by decide +kernel
theorem dX11_moves_78 : decode cX11_moves 78 = .ok (.ireturn, 1) := by decide +kernel
theorem dX11_moves_79 : decode cX11_moves 79 = .ok (.aload_n 0, 1) := by decide +kernel
theorem dX11_moves_80 : decode cX11_moves 80 = .ok (.getfield 19, 3) := by decide +kernel
theorem dX11_moves_83 : decode cX11_moves 83 = .ok (.iload_n 2, 1) := by decide +kernel
theorem dX11_moves_84 : decode cX11_moves 84 = .ok (.bipush 10, 2) := by decide +kernel
theorem dX11_moves_86 : decode cX11_moves 86 = .ok (.isub, 1) := by decide +kernel
theorem dX11_moves_87 : decode cX11_moves 87 = .ok (.invokevirtual 77, 3) := by decide +kernel
theorem dX11_moves_90 : decode cX11_moves 90 = .ok (.ifCond .eq 20, 3) := by decide +kernel
theorem dX11_moves_93 : decode cX11_moves 93 = .ok (.aload_n 0, 1) := by decide +kernel
theorem dX11_moves_94 : decode cX11_moves 94 = .ok (.getfield 33, 3) := by decide +kernel
theorem dX11_moves_97 : decode cX11_moves 97 = .ok (.getfield 147, 3) := by decide +kernel
theorem dX11_moves_100 : decode cX11_moves 100 = .ok (.iload_n 2, 1) := by decide +kernel
theorem dX11_moves_101 : decode cX11_moves 101 = .ok (.bipush 10, 2) := by decide +kernel
theorem dX11_moves_103 : decode cX11_moves 103 = .ok (.isub, 1) := by decide +kernel
theorem dX11_moves_104 : decode cX11_moves 104 = .ok (.invokestatic 98, 3) := by decide +kernel
theorem dX11_moves_107 : decode cX11_moves 107 = .ok (.goto 4, 3) := by decide +kernel
theorem dX11_moves_110 : decode cX11_moves 110 = .ok (.iconst (-1), 1) := by decide +kernel
theorem dX11_moves_111 : decode cX11_moves 111 = .ok (.ireturn, 1) := by decide +kernel
theorem dX11_days_0 : decode cX11_days 0 = .ok (.aload_n 0, 1) := by decide +kernel
theorem dX11_days_1 : decode cX11_days 1 = .ok (.getfield 19, 3) := by decide +kernel
theorem dX11_days_4 : decode cX11_days 4 = .ok (.iload_n 1, 1) := by decide +kernel
theorem dX11_days_5 : decode cX11_days 5 = .ok (.invokevirtual 150, 3) := by decide +kernel
theorem dX11_days_8 : decode cX11_days 8 = .ok (.ifCond .ne 6, 3) := by decide +kernel
theorem dX11_days_11 : decode cX11_days 11 = .ok (.bipush (-102), 2) := by decide +kernel
theorem dX11_days_13 : decode cX11_days 13 = .ok (.ireturn, 1) := by decide +kernel
theorem dX11_days_14 : decode cX11_days 14 = .ok (.iload_n 2, 1) := by decide +kernel
theorem dX11_days_15 : decode cX11_days 15 = .ok (.ifCond .eq 18, 3) := by decide +kernel
theorem dX11_days_18 : decode cX11_days 18 = .ok (.iload_n 2, 1) := by decide +kernel
theorem dX11_days_19 : decode cX11_days 19 = .ok (.bipush 10, 2) := by decide +kernel
theorem dX11_days_21 : decode cX11_days 21 = .ok (.if_icmp .lt 9, 3) := by decide +kernel
theorem dX11_days_24 : decode cX11_days 24 = .ok (.iload_n 2, 1) := by decide +kernel
theorem dX11_days_25 : decode cX11_days 25 = .ok (.bipush 13, 2) := by decide +kernel
theorem dX11_days_27 : decode cX11_days 27 = .ok (.if_icmp .lt 6, 3) := by decide +kernel
theorem dX11_days_30 : decode cX11_days 30 = .ok (.bipush (-102), 2) := by decide +kernel
theorem dX11_days_32 : decode cX11_days 32 = .ok (.ireturn, 1) := by decide +kernel
theorem dX11_days_33 : decode cX11_days 33 = .ok (.aload_n 0, 1) := by decide +kernel
theorem dX11_days_34 : decode cX11_days 34 = .ok (.getfield 19, 3) := by decide +kernel
theorem dX11_days_37 : decode cX11_days 37 = .ok (.getfield 74, 3) := by decide +kernel
theorem dX11_days_40 : decode cX11_days 40 = .ok (.ifCond .eq 12, 3) := by decide +kernel
theorem dX11_days_43 : decode cX11_days 43 = .ok (.aload_n 0, 1) := by decide +kernel
theorem dX11_days_44 : decode cX11_days 44 = .ok (.getfield 153, 3) := by decide +kernel
theorem dX11_days_47 : decode cX11_days 47 = .ok (.bipush 40, 2) := by decide +kernel
theorem dX11_days_49 : decode cX11_days 49 = .ok (.if_icmp .lt 6, 3) := by decide +kernel
theorem dX11_days_52 : decode cX11_days 52 = .ok (.bipush (-103), 2) := by decide +kernel
theorem dX11_days_54 : decode cX11_days 54 = .ok (.ireturn, 1) := by decide +kernel
theorem dX11_days_55 : decode cX11_days 55 = .ok (.aload_n 0, 1) := by decide +kernel
theorem dX11_days_56 : decode cX11_days 56 = .ok (.dup, 1) := by decide +kernel
theorem dX11_days_57 : decode cX11_days 57 = .ok (.getfield 153, 3) := by decide +kernel
theorem dX11_days_60 : decode cX11_days 60 = .ok (.iconst 1, 1) := by decide +kernel
theorem dX11_days_61 : decode cX11_days 61 = .ok (.iadd, 1) := by decide +kernel
theorem dX11_days_62 : decode cX11_days 62 = .ok (.putfield 153, 3) := by decide +kernel
theorem dX11_days_65 : decode cX11_days 65 = .ok (.aload_n 0, 1) := by decide +kernel
theorem dX11_days_66 : decode cX11_days 66 = .ok (.getfield 33, 3) := by decide +kernel
theorem dX11_days_69 : decode cX11_days 69 = .ok (.aload_n 0, 1) := by decide +kernel
theorem dX11_days_70 : decode cX11_days 70 = .ok (.getfield 19, 3) := by decide +kernel
theorem dX11_days_73 : decode cX11_days 73 = .ok (.iload_n 1, 1) := by decide +kernel
theorem dX11_days_74 : decode cX11_days 74 = .ok (.invokevirtual 156, 3) := by decide +kernel
theorem dX11_days_77 : decode cX11_days 77 = .ok (.istore_n 3, 1) := by decide +kernel
theorem dX11_days_78 : decode cX11_days 78 = .ok (.iload_n 3, 1) := by decide +kernel
theorem dX11_days_79 : decode cX11_days 79 = .ok (.iconst (-1), 1) := by decide +kernel
theorem dX11_days_80 : decode cX11_days 80 = .ok (.if_icmp .eq 7, 3) := by decide +kernel
theorem dX11_days_83 : decode cX11_days 83 = .ok (.iload_n 2, 1) := by decide +kernel
theorem dX11_days_84 : decode cX11_days 84 = .ok (.ifCond .ne 5, 3) := by decide +kernel
theorem dX11_days_87 : decode cX11_days 87 = .ok (.iload_n 3, 1) := by decide +kernel
theorem dX11_days_88 : decode cX11_days 88 = .ok (.ireturn, 1) := by decide +kernel
theorem dX11_days_89 : decode cX11_days 89 = .ok (.iload_n 2, 1) := by decide +kernel
theorem dX11_days_90 : decode cX11_days 90 = .ok (.bipush 10, 2) := by decide +kernel
theorem dX11_days_92 : decode cX11_days 92 = .ok (.isub, 1) := by decide +kernel
theorem dX11_days_93 : decode cX11_days 93 = .ok (.iload_n 3, 1) := by decide +kernel
theorem dX11_days_94 : decode cX11_days 94 = .ok (.if_icmp .ge 20, 3) := by decide +kernel
theorem dX11_days_97 : decode cX11_days 97 = .ok (.aload_n 0, 1) := by decide +kernel
theorem dX11_days_98 : decode cX11_days 98 = .ok (.getfield 33, 3) := by decide +kernel
theorem dX11_days_101 : decode cX11_days 101 = .ok (.getfield 159, 3) := by decide +kernel
theorem dX11_days_104 : decode cX11_days 104 = .ok (.iload_n 2, 1) := by decide +kernel
theorem dX11_days_105 : decode cX11_days 105 = .ok (.bipush 10, 2) := by decide +kernel
theorem dX11_days_107 : decode cX11_days 107 = .ok (.isub, 1) := by decide +kernel
theorem dX11_days_108 : decode cX11_days 108 = .ok (.invokestatic 115, 3) := by decide +kernel
theorem dX11_days_111 : decode cX11_days 111 = .ok (.goto 4, 3) := by decide +kernel
theorem dX11_days_114 : decode cX11_days 114 = .ok (.iconst (-1), 1) := by decide +kernel
theorem dX11_days_115 : decode cX11_days 115 = .ok (.ireturn, 1) := by decide +kernel
theorem dX11_hear_0 : decode cX11_hear 0 = .ok (.aload_n 0, 1) := by decide +kernel
theorem dX11_hear_1 : decode cX11_hear 1 = .ok (.getfield 19, 3) := by decide +kernel
theorem dX11_hear_4 : decode cX11_hear 4 = .ok (.iload_n 1, 1) := by decide +kernel
theorem dX11_hear_5 : decode cX11_hear 5 = .ok (.invokevirtual 77, 3) := by decide +kernel
theorem dX11_hear_8 : decode cX11_hear 8 = .ok (.ifCond .ne 6, 3) := by decide +kernel
theorem dX11_hear_11 : decode cX11_hear 11 = .ok (.bipush (-101), 2) := by decide +kernel
theorem dX11_hear_13 : decode cX11_hear 13 = .ok (.ireturn, 1) := by decide +kernel
theorem dX11_hear_14 : decode cX11_hear 14 = .ok (.aload_n 0, 1) := by decide +kernel
theorem dX11_hear_15 : decode cX11_hear 15 = .ok (.getfield 19, 3) := by decide +kernel
theorem dX11_hear_18 : decode cX11_hear 18 = .ok (.iload_n 1, 1) := by decide +kernel
theorem dX11_hear_19 : decode cX11_hear 19 = .ok (.iload_n 2, 1) := by decide +kernel
theorem dX11_hear_20 : decode cX11_hear 20 = .ok (.invokevirtual 133, 3) := by decide +kernel
theorem dX11_hear_23 : decode cX11_hear 23 = .ok (.ifCond .ne 6, 3) := by decide +kernel
theorem dX11_hear_26 : decode cX11_hear 26 = .ok (.bipush (-102), 2) := by decide +kernel
theorem dX11_hear_28 : decode cX11_hear 28 = .ok (.ireturn, 1) := by decide +kernel
theorem dX11_hear_29 : decode cX11_hear 29 = .ok (.aload_n 0, 1) := by decide +kernel
theorem dX11_hear_30 : decode cX11_hear 30 = .ok (.getfield 19, 3) := by decide +kernel
theorem dX11_hear_33 : decode cX11_hear 33 = .ok (.getfield 92, 3) := by decide +kernel
theorem dX11_hear_36 : decode cX11_hear 36 = .ok (.astore 4, 2) := by decide +kernel
theorem dX11_hear_38 : decode cX11_hear 38 = .ok (.aload 4, 2) := by decide +kernel
theorem dX11_hear_40 : decode cX11_hear 40 = .ok (.getfield 162, 3) := by decide +kernel
theorem dX11_hear_43 : decode cX11_hear 43 = .ok (.bipush 6, 2) := by decide +kernel
theorem dX11_hear_45 : decode cX11_hear 45 = .ok (.if_icmp .lt 6, 3) := by decide +kernel
theorem dX11_hear_48 : decode cX11_hear 48 = .ok (.bipush (-104), 2) := by decide +kernel
theorem dX11_hear_50 : decode cX11_hear 50 = .ok (.ireturn, 1) := by decide +kernel
theorem dX11_hear_51 : decode cX11_hear 51 = .ok (.aload 4, 2) := by decide +kernel
theorem dX11_hear_53 : decode cX11_hear 53 = .ok (.iload_n 1, 1) := by decide +kernel
theorem dX11_hear_54 : decode cX11_hear 54 = .ok (.iload_n 2, 1) := by decide +kernel
theorem dX11_hear_55 : decode cX11_hear 55 = .ok (.iload_n 3, 1) := by decide +kernel
theorem dX11_hear_56 : decode cX11_hear 56 = .ok (.invokevirtual 165, 3) := by decide +kernel
theorem dX11_hear_59 : decode cX11_hear 59 = .ok (.aload 4, 2) := by decide +kernel
theorem dX11_hear_61 : decode cX11_hear 61 = .ok (.getfield 162, 3) := by decide +kernel
theorem dX11_hear_64 : decode cX11_hear 64 = .ok (.ireturn, 1) := by decide +kernel
theorem dX11_forget_0 : decode cX11_forget 0 = .ok (.aload_n 0, 1) := by decide +kernel
theorem dX11_forget_1 : decode cX11_forget 1 = .ok (.getfield 19, 3) := by decide +kernel
theorem dX11_forget_4 : decode cX11_forget 4 = .ok (.getfield 92, 3) := by decide +kernel
theorem dX11_forget_7 : decode cX11_forget 7 = .ok (.getfield 162, 3) := by decide +kernel
theorem dX11_forget_10 : decode cX11_forget 10 = .ok (.istore_n 1, 1) := by decide +kernel
theorem dX11_forget_11 : decode cX11_forget 11 = .ok (.aload_n 0, 1) := by decide +kernel
theorem dX11_forget_12 : decode cX11_forget 12 = .ok (.getfield 19, 3) := by decide +kernel
theorem dX11_forget_15 : decode cX11_forget 15 = .ok (.getfield 92, 3) := by decide +kernel
theorem dX11_forget_18 : decode cX11_forget 18 = .ok (.iconst 0, 1) := by decide +kernel
theorem dX11_forget_19 : decode cX11_forget 19 = .ok (.putfield 162, 3) := by decide +kernel
theorem dX11_forget_22 : decode cX11_forget 22 = .ok (.iload_n 1, 1) := by decide +kernel
theorem dX11_forget_23 : decode cX11_forget 23 = .ok (.ireturn, 1) := by decide +kernel
theorem dX11_holders_0 : decode cX11_holders 0 = .ok (.aload_n 0, 1) := by decide +kernel
theorem dX11_holders_1 : decode cX11_holders 1 = .ok (.getfield 19, 3) := by decide +kernel
theorem dX11_holders_4 : decode cX11_holders 4 = .ok (.iload_n 1, 1) := by decide +kernel
theorem dX11_holders_5 : decode cX11_holders 5 = .ok (.invokevirtual 77, 3) := by decide +kernel
theorem dX11_holders_8 : decode cX11_holders 8 = .ok (.ifCond .ne 6, 3) := by decide +kernel
theorem dX11_holders_11 : decode cX11_holders 11 = .ok (.bipush (-101), 2) := by decide +kernel
theorem dX11_holders_13 : decode cX11_holders 13 = .ok (.ireturn, 1) := by decide +kernel
theorem dX11_holders_14 : decode cX11_holders 14 = .ok (.iload_n 2, 1) := by decide +kernel
theorem dX11_holders_15 : decode cX11_holders 15 = .ok (.ifCond .lt 8, 3) := by decide +kernel
theorem dX11_holders_18 : decode cX11_holders 18 = .ok (.iload_n 2, 1) := by decide +kernel
theorem dX11_holders_19 : decode cX11_holders 19 = .ok (.iconst 1, 1) := by decide +kernel
theorem dX11_holders_20 : decode cX11_holders 20 = .ok (.if_icmp .le 6, 3) := by decide +kernel
theorem dX11_holders_23 : decode cX11_holders 23 = .ok (.bipush (-102), 2) := by decide +kernel
theorem dX11_holders_25 : decode cX11_holders 25 = .ok (.ireturn, 1) := by decide +kernel
theorem dX11_holders_26 : decode cX11_holders 26 = .ok (.aload_n 0, 1) := by decide +kernel
theorem dX11_holders_27 : decode cX11_holders 27 = .ok (.getfield 40, 3) := by decide +kernel
theorem dX11_holders_30 : decode cX11_holders 30 = .ok (.aload_n 0, 1) := by decide +kernel
theorem dX11_holders_31 : decode cX11_holders 31 = .ok (.getfield 19, 3) := by decide +kernel
theorem dX11_holders_34 : decode cX11_holders 34 = .ok (.iload_n 1, 1) := by decide +kernel
theorem dX11_holders_35 : decode cX11_holders 35 = .ok (.invokevirtual 168, 3) := by decide +kernel
theorem dX11_holders_38 : decode cX11_holders 38 = .ok (.iload_n 2, 1) := by decide +kernel
theorem dX11_holders_39 : decode cX11_holders 39 = .ok (.ifCond .ne 13, 3) := by decide +kernel
theorem dX11_holders_42 : decode cX11_holders 42 = .ok (.aload_n 0, 1) := by decide +kernel
theorem dX11_holders_43 : decode cX11_holders 43 = .ok (.getfield 40, 3) := by decide +kernel
theorem dX11_holders_46 : decode cX11_holders 46 = .ok (.getfield 172, 3) := by decide +kernel
theorem dX11_holders_49 : decode cX11_holders 49 = .ok (.goto 10, 3) := by decide +kernel
theorem dX11_holders_52 : decode cX11_holders 52 = .ok (.aload_n 0, 1) := by decide +kernel
theorem dX11_holders_53 : decode cX11_holders 53 = .ok (.getfield 40, 3) := by decide +kernel
theorem dX11_holders_56 : decode cX11_holders 56 = .ok (.invokevirtual 175, 3) := by decide +kernel
theorem dX11_holders_59 : decode cX11_holders 59 = .ok (.ireturn, 1) := by decide +kernel
theorem dX11_invite_0 : decode cX11_invite 0 = .ok (.aload_n 0, 1) := by decide +kernel
theorem dX11_invite_1 : decode cX11_invite 1 = .ok (.getfield 19, 3) := by decide +kernel
theorem dX11_invite_4 : decode cX11_invite 4 = .ok (.iload_n 1, 1) := by decide +kernel
theorem dX11_invite_5 : decode cX11_invite 5 = .ok (.invokevirtual 77, 3) := by decide +kernel
theorem dX11_invite_8 : decode cX11_invite 8 = .ok (.ifCond .ne 6, 3) := by decide +kernel
theorem dX11_invite_11 : decode cX11_invite 11 = .ok (.bipush (-101), 2) := by decide +kernel
theorem dX11_invite_13 : decode cX11_invite 13 = .ok (.ireturn, 1) := by decide +kernel
theorem dX11_invite_14 : decode cX11_invite 14 = .ok (.aload_n 0, 1) := by decide +kernel
theorem dX11_invite_15 : decode cX11_invite 15 = .ok (.getfield 40, 3) := by decide +kernel
theorem dX11_invite_18 : decode cX11_invite 18 = .ok (.aload_n 0, 1) := by decide +kernel
theorem dX11_invite_19 : decode cX11_invite 19 = .ok (.getfield 19, 3) := by decide +kernel
theorem dX11_invite_22 : decode cX11_invite 22 = .ok (.iload_n 1, 1) := by decide +kernel
theorem dX11_invite_23 : decode cX11_invite 23 = .ok (.invokevirtual 168, 3) := by decide +kernel
theorem dX11_invite_26 : decode cX11_invite 26 = .ok (.aload_n 0, 1) := by decide +kernel
theorem dX11_invite_27 : decode cX11_invite 27 = .ok (.getfield 40, 3) := by decide +kernel
theorem dX11_invite_30 : decode cX11_invite 30 = .ok (.aload_n 0, 1) := by decide +kernel
theorem dX11_invite_31 : decode cX11_invite 31 = .ok (.getfield 19, 3) := by decide +kernel
theorem dX11_invite_34 : decode cX11_invite 34 = .ok (.invokevirtual 178, 3) := by decide +kernel
theorem dX11_invite_37 : decode cX11_invite 37 = .ok (.ireturn, 1) := by decide +kernel
theorem dX11_years_0 : decode cX11_years 0 = .ok (.iload_n 1, 1) := by decide +kernel
theorem dX11_years_1 : decode cX11_years 1 = .ok (.iconst 1, 1) := by decide +kernel
theorem dX11_years_2 : decode cX11_years 2 = .ok (.if_icmp .lt 22, 3) := by decide +kernel
theorem dX11_years_5 : decode cX11_years 5 = .ok (.iload_n 1, 1) := by decide +kernel
theorem dX11_years_6 : decode cX11_years 6 = .ok (.bipush 60, 2) := by decide +kernel
theorem dX11_years_8 : decode cX11_years 8 = .ok (.if_icmp .gt 16, 3) := by decide +kernel
theorem dX11_years_11 : decode cX11_years 11 = .ok (.iload_n 2, 1) := by decide +kernel
theorem dX11_years_12 : decode cX11_years 12 = .ok (.ifCond .lt 12, 3) := by decide +kernel
theorem dX11_years_15 : decode cX11_years 15 = .ok (.iload_n 3, 1) := by decide +kernel
theorem dX11_years_16 : decode cX11_years 16 = .ok (.ifCond .lt 8, 3) := by decide +kernel
theorem dX11_years_19 : decode cX11_years 19 = .ok (.iload_n 3, 1) := by decide +kernel
theorem dX11_years_20 : decode cX11_years 20 = .ok (.iconst 2, 1) := by decide +kernel
theorem dX11_years_21 : decode cX11_years 21 = .ok (.if_icmp .le 6, 3) := by decide +kernel
theorem dX11_years_24 : decode cX11_years 24 = .ok (.bipush (-102), 2) := by decide +kernel
theorem dX11_years_26 : decode cX11_years 26 = .ok (.ireturn, 1) := by decide +kernel
theorem dX11_years_27 : decode cX11_years 27 = .ok (.aload_n 0, 1) := by decide +kernel
theorem dX11_years_28 : decode cX11_years 28 = .ok (.getfield 19, 3) := by decide +kernel
theorem dX11_years_31 : decode cX11_years 31 = .ok (.getfield 74, 3) := by decide +kernel
theorem dX11_years_34 : decode cX11_years 34 = .ok (.ifCond .ne 6, 3) := by decide +kernel
theorem dX11_years_37 : decode cX11_years 37 = .ok (.bipush (-103), 2) := by decide +kernel
theorem dX11_years_39 : decode cX11_years 39 = .ok (.ireturn, 1) := by decide +kernel
theorem dX11_years_40 : decode cX11_years 40 = .ok (.aload_n 0, 1) := by decide +kernel
theorem dX11_years_41 : decode cX11_years 41 = .ok (.getfield 47, 3) := by decide +kernel
theorem dX11_years_44 : decode cX11_years 44 = .ok (.aload_n 0, 1) := by decide +kernel
theorem dX11_years_45 : decode cX11_years 45 = .ok (.getfield 19, 3) := by decide +kernel
theorem dX11_years_48 : decode cX11_years 48 = .ok (.iload_n 1, 1) := by decide +kernel
theorem dX11_years_49 : decode cX11_years 49 = .ok (.iload_n 2, 1) := by decide +kernel
theorem dX11_years_50 : decode cX11_years 50 = .ok (.invokevirtual 182, 3) := by decide +kernel
theorem dX11_years_53 : decode cX11_years 53 = .ok (.iload_n 3, 1) := by decide +kernel
theorem dX11_years_54 : decode cX11_years 54 = .ok (.lookupswitch 42 #[(0, 26), (1, 34)], 26) := by decide +kernel
theorem dX11_years_80 : decode cX11_years 80 = .ok (.aload_n 0, 1) := by decide +kernel
theorem dX11_years_81 : decode cX11_years 81 = .ok (.getfield 47, 3) := by decide +kernel
theorem dX11_years_84 : decode cX11_years 84 = .ok (.getfield 186, 3) := by decide +kernel
theorem dX11_years_87 : decode cX11_years 87 = .ok (.ireturn, 1) := by decide +kernel
theorem dX11_years_88 : decode cX11_years 88 = .ok (.aload_n 0, 1) := by decide +kernel
theorem dX11_years_89 : decode cX11_years 89 = .ok (.getfield 47, 3) := by decide +kernel
theorem dX11_years_92 : decode cX11_years 92 = .ok (.getfield 189, 3) := by decide +kernel
theorem dX11_years_95 : decode cX11_years 95 = .ok (.ireturn, 1) := by decide +kernel
theorem dX11_years_96 : decode cX11_years 96 = .ok (.aload_n 0, 1) := by decide +kernel
theorem dX11_years_97 : decode cX11_years 97 = .ok (.getfield 47, 3) := by decide +kernel
theorem dX11_years_100 : decode cX11_years 100 = .ok (.getfield 192, 3) := by decide +kernel
theorem dX11_years_103 : decode cX11_years 103 = .ok (.ireturn, 1) := by decide +kernel
theorem dX11_image_0 : decode cX11_image 0 = .ok (.aload_n 0, 1) := by decide +kernel
theorem dX11_image_1 : decode cX11_image 1 = .ok (.getfield 19, 3) := by decide +kernel
theorem dX11_image_4 : decode cX11_image 4 = .ok (.getfield 74, 3) := by decide +kernel
theorem dX11_image_7 : decode cX11_image 7 = .ok (.ifCond .ne 6, 3) := by decide +kernel
theorem dX11_image_10 : decode cX11_image 10 = .ok (.bipush (-103), 2) := by decide +kernel
theorem dX11_image_12 : decode cX11_image 12 = .ok (.ireturn, 1) := by decide +kernel
theorem dX11_image_13 : decode cX11_image 13 = .ok (.aload_n 0, 1) := by decide +kernel
theorem dX11_image_14 : decode cX11_image 14 = .ok (.getfield 26, 3) := by decide +kernel
theorem dX11_image_17 : decode cX11_image 17 = .ok (.aload_n 0, 1) := by decide +kernel
theorem dX11_image_18 : decode cX11_image 18 = .ok (.getfield 19, 3) := by decide +kernel
theorem dX11_image_21 : decode cX11_image 21 = .ok (.getfield 92, 3) := by decide +kernel
theorem dX11_image_24 : decode cX11_image 24 = .ok (.invokevirtual 195, 3) := by decide +kernel
theorem dX11_image_27 : decode cX11_image 27 = .ok (.aload_n 0, 1) := by decide +kernel
theorem dX11_image_28 : decode cX11_image 28 = .ok (.aload_n 0, 1) := by decide +kernel
theorem dX11_image_29 : decode cX11_image 29 = .ok (.getfield 71, 3) := by decide +kernel
theorem dX11_image_32 : decode cX11_image 32 = .ok (.putfield 199, 3) := by decide +kernel
theorem dX11_image_35 : decode cX11_image 35 = .ok (.aload_n 0, 1) := by decide +kernel
theorem dX11_image_36 : decode cX11_image 36 = .ok (.getfield 26, 3) := by decide +kernel
theorem dX11_image_39 : decode cX11_image 39 = .ok (.getfield 105, 3) := by decide +kernel
theorem dX11_image_42 : decode cX11_image 42 = .ok (.aload_n 0, 1) := by decide +kernel
theorem dX11_image_43 : decode cX11_image 43 = .ok (.getfield 26, 3) := by decide +kernel
theorem dX11_image_46 : decode cX11_image 46 = .ok (.getfield 123, 3) := by decide +kernel
theorem dX11_image_49 : decode cX11_image 49 = .ok (.iadd, 1) := by decide +kernel
theorem dX11_image_50 : decode cX11_image 50 = .ok (.ireturn, 1) := by decide +kernel
theorem dX11_restore_0 : decode cX11_restore 0 = .ok (.aload_n 0, 1) := by decide +kernel
theorem dX11_restore_1 : decode cX11_restore 1 = .ok (.getfield 199, 3) := by decide +kernel
theorem dX11_restore_4 : decode cX11_restore 4 = .ok (.ifCond .eq 14, 3) := by decide +kernel
theorem dX11_restore_7 : decode cX11_restore 7 = .ok (.aload_n 0, 1) := by decide +kernel
theorem dX11_restore_8 : decode cX11_restore 8 = .ok (.getfield 199, 3) := by decide +kernel
theorem dX11_restore_11 : decode cX11_restore 11 = .ok (.aload_n 0, 1) := by decide +kernel
theorem dX11_restore_12 : decode cX11_restore 12 = .ok (.getfield 71, 3) := by decide +kernel
theorem dX11_restore_15 : decode cX11_restore 15 = .ok (.if_icmp .eq 6, 3) := by decide +kernel
theorem dX11_restore_18 : decode cX11_restore 18 = .ok (.bipush (-103), 2) := by decide +kernel
theorem dX11_restore_20 : decode cX11_restore 20 = .ok (.ireturn, 1) := by decide +kernel
theorem dX11_restore_21 : decode cX11_restore 21 = .ok (.aload_n 0, 1) := by decide +kernel
theorem dX11_restore_22 : decode cX11_restore 22 = .ok (.getfield 19, 3) := by decide +kernel
theorem dX11_restore_25 : decode cX11_restore 25 = .ok (.getfield 92, 3) := by decide +kernel
theorem dX11_restore_28 : decode cX11_restore 28 = .ok (.aload_n 0, 1) := by decide +kernel
theorem dX11_restore_29 : decode cX11_restore 29 = .ok (.getfield 26, 3) := by decide +kernel
theorem dX11_restore_32 : decode cX11_restore 32 = .ok (.invokevirtual 195, 3) := by decide +kernel
theorem dX11_restore_35 : decode cX11_restore 35 = .ok (.aload_n 0, 1) := by decide +kernel
theorem dX11_restore_36 : decode cX11_restore 36 = .ok (.getfield 26, 3) := by decide +kernel
theorem dX11_restore_39 : decode cX11_restore 39 = .ok (.getfield 105, 3) := by decide +kernel
theorem dX11_restore_42 : decode cX11_restore 42 = .ok (.aload_n 0, 1) := by decide +kernel
theorem dX11_restore_43 : decode cX11_restore 43 = .ok (.getfield 26, 3) := by decide +kernel
theorem dX11_restore_46 : decode cX11_restore 46 = .ok (.getfield 123, 3) := by decide +kernel
theorem dX11_restore_49 : decode cX11_restore 49 = .ok (.iadd, 1) := by decide +kernel
theorem dX11_restore_50 : decode cX11_restore 50 = .ok (.ireturn, 1) := by decide +kernel
theorem dX11_count_0 : decode cX11_count 0 = .ok (.iload_n 1, 1) := by decide +kernel
theorem dX11_count_1 : decode cX11_count 1 = .ok (.tableswitch 145 0 9 #[55, 63, 81, 89, 100, 111, 122, 130, 135, 140], 55) := by decide +kernel
theorem dX11_count_56 : decode cX11_count 56 = .ok (.aload_n 0, 1) := by decide +kernel
theorem dX11_count_57 : decode cX11_count 57 = .ok (.getfield 19, 3) := by decide +kernel
theorem dX11_count_60 : decode cX11_count 60 = .ok (.getfield 74, 3) := by decide +kernel
theorem dX11_count_63 : decode cX11_count 63 = .ok (.ireturn, 1) := by decide +kernel
theorem dX11_count_64 : decode cX11_count 64 = .ok (.aload_n 0, 1) := by decide +kernel
theorem dX11_count_65 : decode cX11_count 65 = .ok (.getfield 19, 3) := by decide +kernel
theorem dX11_count_68 : decode cX11_count 68 = .ok (.aload_n 0, 1) := by decide +kernel
theorem dX11_count_69 : decode cX11_count 69 = .ok (.getfield 19, 3) := by decide +kernel
theorem dX11_count_72 : decode cX11_count 72 = .ok (.getfield 92, 3) := by decide +kernel
theorem dX11_count_75 : decode cX11_count 75 = .ok (.getfield 95, 3) := by decide +kernel
theorem dX11_count_78 : decode cX11_count 78 = .ok (.invokevirtual 202, 3) := by decide +kernel
theorem dX11_count_81 : decode cX11_count 81 = .ok (.ireturn, 1) := by decide +kernel
theorem dX11_count_82 : decode cX11_count 82 = .ok (.aload_n 0, 1) := by decide +kernel
theorem dX11_count_83 : decode cX11_count 83 = .ok (.getfield 19, 3) := by decide +kernel
theorem dX11_count_86 : decode cX11_count 86 = .ok (.invokevirtual 206, 3) := by decide +kernel
theorem dX11_count_89 : decode cX11_count 89 = .ok (.ireturn, 1) := by decide +kernel
theorem dX11_count_90 : decode cX11_count 90 = .ok (.aload_n 0, 1) := by decide +kernel
theorem dX11_count_91 : decode cX11_count 91 = .ok (.getfield 19, 3) := by decide +kernel
theorem dX11_count_94 : decode cX11_count 94 = .ok (.getfield 92, 3) := by decide +kernel
theorem dX11_count_97 : decode cX11_count 97 = .ok (.getfield 105, 3) := by decide +kernel
theorem dX11_count_100 : decode cX11_count 100 = .ok (.ireturn, 1) := by decide +kernel
theorem dX11_count_101 : decode cX11_count 101 = .ok (.aload_n 0, 1) := by decide +kernel
theorem dX11_count_102 : decode cX11_count 102 = .ok (.getfield 19, 3) := by decide +kernel
theorem dX11_count_105 : decode cX11_count 105 = .ok (.getfield 92, 3) := by decide +kernel
theorem dX11_count_108 : decode cX11_count 108 = .ok (.getfield 123, 3) := by decide +kernel
theorem dX11_count_111 : decode cX11_count 111 = .ok (.ireturn, 1) := by decide +kernel
theorem dX11_count_112 : decode cX11_count 112 = .ok (.aload_n 0, 1) := by decide +kernel
theorem dX11_count_113 : decode cX11_count 113 = .ok (.getfield 19, 3) := by decide +kernel
theorem dX11_count_116 : decode cX11_count 116 = .ok (.getfield 92, 3) := by decide +kernel
theorem dX11_count_119 : decode cX11_count 119 = .ok (.getfield 162, 3) := by decide +kernel
theorem dX11_count_122 : decode cX11_count 122 = .ok (.ireturn, 1) := by decide +kernel
theorem dX11_count_123 : decode cX11_count 123 = .ok (.aload_n 0, 1) := by decide +kernel
theorem dX11_count_124 : decode cX11_count 124 = .ok (.getfield 10, 3) := by decide +kernel
theorem dX11_count_127 : decode cX11_count 127 = .ok (.getfield 55, 3) := by decide +kernel
theorem dX11_count_130 : decode cX11_count 130 = .ok (.ireturn, 1) := by decide +kernel
theorem dX11_count_131 : decode cX11_count 131 = .ok (.aload_n 0, 1) := by decide +kernel
theorem dX11_count_132 : decode cX11_count 132 = .ok (.getfield 71, 3) := by decide +kernel
theorem dX11_count_135 : decode cX11_count 135 = .ok (.ireturn, 1) := by decide +kernel
theorem dX11_count_136 : decode cX11_count 136 = .ok (.aload_n 0, 1) := by decide +kernel
theorem dX11_count_137 : decode cX11_count 137 = .ok (.getfield 140, 3) := by decide +kernel
theorem dX11_count_140 : decode cX11_count 140 = .ok (.ireturn, 1) := by decide +kernel
theorem dX11_count_141 : decode cX11_count 141 = .ok (.aload_n 0, 1) := by decide +kernel
theorem dX11_count_142 : decode cX11_count 142 = .ok (.getfield 153, 3) := by decide +kernel
theorem dX11_count_145 : decode cX11_count 145 = .ok (.ireturn, 1) := by decide +kernel
theorem dX11_count_146 : decode cX11_count 146 = .ok (.bipush (-102), 2) := by decide +kernel
theorem dX11_count_148 : decode cX11_count 148 = .ok (.ireturn, 1) := by decide +kernel
theorem dX11_digest_0 : decode cX11_digest 0 = .ok (.ldc2_w 209, 3) := by decide +kernel
theorem dX11_digest_3 : decode cX11_digest 3 = .ok (.lstore_n 1, 1) := by decide +kernel
theorem dX11_digest_4 : decode cX11_digest 4 = .ok (.iconst 0, 1) := by decide +kernel
theorem dX11_digest_5 : decode cX11_digest 5 = .ok (.istore_n 3, 1) := by decide +kernel
theorem dX11_digest_6 : decode cX11_digest 6 = .ok (.iload_n 3, 1) := by decide +kernel
theorem dX11_digest_7 : decode cX11_digest 7 = .ok (.aload_n 0, 1) := by decide +kernel
theorem dX11_digest_8 : decode cX11_digest 8 = .ok (.getfield 19, 3) := by decide +kernel
theorem dX11_digest_11 : decode cX11_digest 11 = .ok (.getfield 74, 3) := by decide +kernel
theorem dX11_digest_14 : decode cX11_digest 14 = .ok (.if_icmp .ge 101, 3) := by decide +kernel
theorem dX11_digest_17 : decode cX11_digest 17 = .ok (.iconst 0, 1) := by decide +kernel
theorem dX11_digest_18 : decode cX11_digest 18 = .ok (.istore 4, 2) := by decide +kernel
theorem dX11_digest_20 : decode cX11_digest 20 = .ok (.iload 4, 2) := by decide +kernel
theorem dX11_digest_22 : decode cX11_digest 22 = .ok (.bipush 9, 2) := by decide +kernel
theorem dX11_digest_24 : decode cX11_digest 24 = .ok (.if_icmp .ge 24, 3) := by decide +kernel
theorem dX11_digest_27 : decode cX11_digest 27 = .ok (.ldc2_w 211, 3) := by decide +kernel
theorem dX11_digest_30 : decode cX11_digest 30 = .ok (.lload_n 1, 1) := by decide +kernel
theorem dX11_digest_31 : decode cX11_digest 31 = .ok (.lmul, 1) := by decide +kernel
theorem dX11_digest_32 : decode cX11_digest 32 = .ok (.aload_n 0, 1) := by decide +kernel
theorem dX11_digest_33 : decode cX11_digest 33 = .ok (.iload_n 3, 1) := by decide +kernel
theorem dX11_digest_34 : decode cX11_digest 34 = .ok (.iload 4, 2) := by decide +kernel
theorem dX11_digest_36 : decode cX11_digest 36 = .ok (.invokevirtual 80, 3) := by decide +kernel
theorem dX11_digest_39 : decode cX11_digest 39 = .ok (.i2l, 1) := by decide +kernel
theorem dX11_digest_40 : decode cX11_digest 40 = .ok (.ladd, 1) := by decide +kernel
theorem dX11_digest_41 : decode cX11_digest 41 = .ok (.lstore_n 1, 1) := by decide +kernel
theorem dX11_digest_42 : decode cX11_digest 42 = .ok (.iinc 4 1, 3) := by decide +kernel
theorem dX11_digest_45 : decode cX11_digest 45 = .ok (.goto (-25), 3) := by decide +kernel
theorem dX11_digest_48 : decode cX11_digest 48 = .ok (.aload_n 0, 1) := by decide +kernel
theorem dX11_digest_49 : decode cX11_digest 49 = .ok (.getfield 40, 3) := by decide +kernel
theorem dX11_digest_52 : decode cX11_digest 52 = .ok (.aload_n 0, 1) := by decide +kernel
theorem dX11_digest_53 : decode cX11_digest 53 = .ok (.getfield 19, 3) := by decide +kernel
theorem dX11_digest_56 : decode cX11_digest 56 = .ok (.iload_n 3, 1) := by decide +kernel
theorem dX11_digest_57 : decode cX11_digest 57 = .ok (.invokevirtual 168, 3) := by decide +kernel
theorem dX11_digest_60 : decode cX11_digest 60 = .ok (.ldc2_w 211, 3) := by decide +kernel
theorem dX11_digest_63 : decode cX11_digest 63 = .ok (.lload_n 1, 1) := by decide +kernel
theorem dX11_digest_64 : decode cX11_digest 64 = .ok (.lmul, 1) := by decide +kernel
theorem dX11_digest_65 : decode cX11_digest 65 = .ok (.aload_n 0, 1) := by decide +kernel
theorem dX11_digest_66 : decode cX11_digest 66 = .ok (.getfield 40, 3) := by decide +kernel
theorem dX11_digest_69 : decode cX11_digest 69 = .ok (.getfield 172, 3) := by decide +kernel
theorem dX11_digest_72 : decode cX11_digest 72 = .ok (.i2l, 1) := by decide +kernel
theorem dX11_digest_73 : decode cX11_digest 73 = .ok (.ladd, 1) := by decide +kernel
theorem dX11_digest_74 : decode cX11_digest 74 = .ok (.lstore_n 1, 1) := by decide +kernel
theorem dX11_digest_75 : decode cX11_digest 75 = .ok (.ldc2_w 211, 3) := by decide +kernel
theorem dX11_digest_78 : decode cX11_digest 78 = .ok (.lload_n 1, 1) := by decide +kernel
theorem dX11_digest_79 : decode cX11_digest 79 = .ok (.lmul, 1) := by decide +kernel
theorem dX11_digest_80 : decode cX11_digest 80 = .ok (.aload_n 0, 1) := by decide +kernel
theorem dX11_digest_81 : decode cX11_digest 81 = .ok (.getfield 40, 3) := by decide +kernel
theorem dX11_digest_84 : decode cX11_digest 84 = .ok (.invokevirtual 175, 3) := by decide +kernel
theorem dX11_digest_87 : decode cX11_digest 87 = .ok (.i2l, 1) := by decide +kernel
theorem dX11_digest_88 : decode cX11_digest 88 = .ok (.ladd, 1) := by decide +kernel
theorem dX11_digest_89 : decode cX11_digest 89 = .ok (.lstore_n 1, 1) := by decide +kernel
theorem dX11_digest_90 : decode cX11_digest 90 = .ok (.ldc2_w 211, 3) := by decide +kernel
theorem dX11_digest_93 : decode cX11_digest 93 = .ok (.lload_n 1, 1) := by decide +kernel
theorem dX11_digest_94 : decode cX11_digest 94 = .ok (.lmul, 1) := by decide +kernel
theorem dX11_digest_95 : decode cX11_digest 95 = .ok (.aload_n 0, 1) := by decide +kernel
theorem dX11_digest_96 : decode cX11_digest 96 = .ok (.getfield 40, 3) := by decide +kernel
theorem dX11_digest_99 : decode cX11_digest 99 = .ok (.aload_n 0, 1) := by decide +kernel
theorem dX11_digest_100 : decode cX11_digest 100 = .ok (.getfield 19, 3) := by decide +kernel
theorem dX11_digest_103 : decode cX11_digest 103 = .ok (.invokevirtual 178, 3) := by decide +kernel
theorem dX11_digest_106 : decode cX11_digest 106 = .ok (.i2l, 1) := by decide +kernel
theorem dX11_digest_107 : decode cX11_digest 107 = .ok (.ladd, 1) := by decide +kernel
theorem dX11_digest_108 : decode cX11_digest 108 = .ok (.lstore_n 1, 1) := by decide +kernel
theorem dX11_digest_109 : decode cX11_digest 109 = .ok (.iinc 3 1, 3) := by decide +kernel
theorem dX11_digest_112 : decode cX11_digest 112 = .ok (.goto (-106), 3) := by decide +kernel
theorem dX11_digest_115 : decode cX11_digest 115 = .ok (.iconst 0, 1) := by decide +kernel
theorem dX11_digest_116 : decode cX11_digest 116 = .ok (.istore_n 3, 1) := by decide +kernel
theorem dX11_digest_117 : decode cX11_digest 117 = .ok (.iload_n 3, 1) := by decide +kernel
theorem dX11_digest_118 : decode cX11_digest 118 = .ok (.aload_n 0, 1) := by decide +kernel
theorem dX11_digest_119 : decode cX11_digest 119 = .ok (.getfield 10, 3) := by decide +kernel
theorem dX11_digest_122 : decode cX11_digest 122 = .ok (.getfield 55, 3) := by decide +kernel
theorem dX11_digest_125 : decode cX11_digest 125 = .ok (.if_icmp .ge 28, 3) := by decide +kernel
theorem dX11_digest_128 : decode cX11_digest 128 = .ok (.ldc2_w 211, 3) := by decide +kernel
theorem dX11_digest_131 : decode cX11_digest 131 = .ok (.lload_n 1, 1) := by decide +kernel
theorem dX11_digest_132 : decode cX11_digest 132 = .ok (.lmul, 1) := by decide +kernel
theorem dX11_digest_133 : decode cX11_digest 133 = .ok (.aload_n 0, 1) := by decide +kernel
theorem dX11_digest_134 : decode cX11_digest 134 = .ok (.getfield 10, 3) := by decide +kernel
theorem dX11_digest_137 : decode cX11_digest 137 = .ok (.getfield 213, 3) := by decide +kernel
theorem dX11_digest_140 : decode cX11_digest 140 = .ok (.iload_n 3, 1) := by decide +kernel
theorem dX11_digest_141 : decode cX11_digest 141 = .ok (.invokestatic 115, 3) := by decide +kernel
theorem dX11_digest_144 : decode cX11_digest 144 = .ok (.i2l, 1) := by decide +kernel
theorem dX11_digest_145 : decode cX11_digest 145 = .ok (.ladd, 1) := by decide +kernel
theorem dX11_digest_146 : decode cX11_digest 146 = .ok (.lstore_n 1, 1) := by decide +kernel
theorem dX11_digest_147 : decode cX11_digest 147 = .ok (.iinc 3 1, 3) := by decide +kernel
theorem dX11_digest_150 : decode cX11_digest 150 = .ok (.goto (-33), 3) := by decide +kernel
theorem dX11_digest_153 : decode cX11_digest 153 = .ok (.iconst 0, 1) := by decide +kernel
theorem dX11_digest_154 : decode cX11_digest 154 = .ok (.istore_n 3, 1) := by decide +kernel
theorem dX11_digest_155 : decode cX11_digest 155 = .ok (.iload_n 3, 1) := by decide +kernel
theorem dX11_digest_156 : decode cX11_digest 156 = .ok (.bipush 10, 2) := by decide +kernel
theorem dX11_digest_158 : decode cX11_digest 158 = .ok (.if_icmp .ge 22, 3) := by decide +kernel
theorem dX11_digest_161 : decode cX11_digest 161 = .ok (.ldc2_w 211, 3) := by decide +kernel
theorem dX11_digest_164 : decode cX11_digest 164 = .ok (.lload_n 1, 1) := by decide +kernel
theorem dX11_digest_165 : decode cX11_digest 165 = .ok (.lmul, 1) := by decide +kernel
theorem dX11_digest_166 : decode cX11_digest 166 = .ok (.aload_n 0, 1) := by decide +kernel
theorem dX11_digest_167 : decode cX11_digest 167 = .ok (.iload_n 3, 1) := by decide +kernel
theorem dX11_digest_168 : decode cX11_digest 168 = .ok (.invokevirtual 216, 3) := by decide +kernel
theorem dX11_digest_171 : decode cX11_digest 171 = .ok (.i2l, 1) := by decide +kernel
theorem dX11_digest_172 : decode cX11_digest 172 = .ok (.ladd, 1) := by decide +kernel
theorem dX11_digest_173 : decode cX11_digest 173 = .ok (.lstore_n 1, 1) := by decide +kernel
theorem dX11_digest_174 : decode cX11_digest 174 = .ok (.iinc 3 1, 3) := by decide +kernel
theorem dX11_digest_177 : decode cX11_digest 177 = .ok (.goto (-22), 3) := by decide +kernel
theorem dX11_digest_180 : decode cX11_digest 180 = .ok (.lload_n 1, 1) := by decide +kernel
theorem dX11_digest_181 : decode cX11_digest 181 = .ok (.lreturn, 1) := by decide +kernel
theorem dX11_tellAbout_0 : decode cX11_tellAbout 0 = .ok (.aload_n 0, 1) := by decide +kernel
theorem dX11_tellAbout_1 : decode cX11_tellAbout 1 = .ok (.getfield 19, 3) := by decide +kernel
theorem dX11_tellAbout_4 : decode cX11_tellAbout 4 = .ok (.getfield 92, 3) := by decide +kernel
theorem dX11_tellAbout_7 : decode cX11_tellAbout 7 = .ok (.astore_n 3, 1) := by decide +kernel
theorem dX11_tellAbout_8 : decode cX11_tellAbout 8 = .ok (.iload_n 2, 1) := by decide +kernel
theorem dX11_tellAbout_9 : decode cX11_tellAbout 9 = .ok (.tableswitch 143 0 7 #[47, 56, 65, 74, 83, 92, 121, 134], 47) := by decide +kernel
theorem dX11_tellAbout_56 : decode cX11_tellAbout 56 = .ok (.aload_n 0, 1) := by decide +kernel
theorem dX11_tellAbout_57 : decode cX11_tellAbout 57 = .ok (.getfield 19, 3) := by decide +kernel
theorem dX11_tellAbout_60 : decode cX11_tellAbout 60 = .ok (.iload_n 1, 1) := by decide +kernel
theorem dX11_tellAbout_61 : decode cX11_tellAbout 61 = .ok (.invokevirtual 219, 3) := by decide +kernel
theorem dX11_tellAbout_64 : decode cX11_tellAbout 64 = .ok (.ireturn, 1) := by decide +kernel
theorem dX11_tellAbout_65 : decode cX11_tellAbout 65 = .ok (.aload_n 3, 1) := by decide +kernel
theorem dX11_tellAbout_66 : decode cX11_tellAbout 66 = .ok (.getfield 108, 3) := by decide +kernel
theorem dX11_tellAbout_69 : decode cX11_tellAbout 69 = .ok (.iload_n 1, 1) := by decide +kernel
theorem dX11_tellAbout_70 : decode cX11_tellAbout 70 = .ok (.invokestatic 115, 3) := by decide +kernel
theorem dX11_tellAbout_73 : decode cX11_tellAbout 73 = .ok (.ireturn, 1) := by decide +kernel
theorem dX11_tellAbout_74 : decode cX11_tellAbout 74 = .ok (.aload_n 3, 1) := by decide +kernel
theorem dX11_tellAbout_75 : decode cX11_tellAbout 75 = .ok (.getfield 112, 3) := by decide +kernel
theorem dX11_tellAbout_78 : decode cX11_tellAbout 78 = .ok (.iload_n 1, 1) := by decide +kernel
theorem dX11_tellAbout_79 : decode cX11_tellAbout 79 = .ok (.invokestatic 115, 3) := by decide +kernel
theorem dX11_tellAbout_82 : decode cX11_tellAbout 82 = .ok (.ireturn, 1) := by decide +kernel
theorem dX11_tellAbout_83 : decode cX11_tellAbout 83 = .ok (.aload_n 3, 1) := by decide +kernel
theorem dX11_tellAbout_84 : decode cX11_tellAbout 84 = .ok (.getfield 95, 3) := by decide +kernel
theorem dX11_tellAbout_87 : decode cX11_tellAbout 87 = .ok (.iload_n 1, 1) := by decide +kernel
theorem dX11_tellAbout_88 : decode cX11_tellAbout 88 = .ok (.invokestatic 98, 3) := by decide +kernel
theorem dX11_tellAbout_91 : decode cX11_tellAbout 91 = .ok (.ireturn, 1) := by decide +kernel
theorem dX11_tellAbout_92 : decode cX11_tellAbout 92 = .ok (.aload_n 3, 1) := by decide +kernel
theorem dX11_tellAbout_93 : decode cX11_tellAbout 93 = .ok (.getfield 126, 3) := by decide +kernel
theorem dX11_tellAbout_96 : decode cX11_tellAbout 96 = .ok (.iload_n 1, 1) := by decide +kernel
theorem dX11_tellAbout_97 : decode cX11_tellAbout 97 = .ok (.invokestatic 115, 3) := by decide +kernel
theorem dX11_tellAbout_100 : decode cX11_tellAbout 100 = .ok (.ireturn, 1) := by decide +kernel
theorem dX11_tellAbout_101 : decode cX11_tellAbout 101 = .ok (.aload_n 0, 1) := by decide +kernel
theorem dX11_tellAbout_102 : decode cX11_tellAbout 102 = .ok (.getfield 19, 3) := by decide +kernel
theorem dX11_tellAbout_105 : decode cX11_tellAbout 105 = .ok (.iload_n 1, 1) := by decide +kernel
theorem dX11_tellAbout_106 : decode cX11_tellAbout 106 = .ok (.aload_n 0, 1) := by decide +kernel
theorem dX11_tellAbout_107 : decode cX11_tellAbout 107 = .ok (.getfield 19, 3) := by decide +kernel
theorem dX11_tellAbout_110 : decode cX11_tellAbout 110 = .ok (.aload_n 3, 1) := by decide +kernel
theorem dX11_tellAbout_111 : decode cX11_tellAbout 111 = .ok (.getfield 95, 3) := by decide +kernel
theorem dX11_tellAbout_114 : decode cX11_tellAbout 114 = .ok (.iload_n 1, 1) := by decide +kernel
theorem dX11_tellAbout_115 : decode cX11_tellAbout 115 = .ok (.invokevirtual 222, 3) := by decide +kernel
theorem dX11_tellAbout_118 : decode cX11_tellAbout 118 = .ok (.invokevirtual 137, 3) := by decide +kernel
theorem dX11_tellAbout_121 : decode cX11_tellAbout 121 = .ok (.ifCond .eq 7, 3) := by decide +kernel
theorem dX11_tellAbout_124 : decode cX11_tellAbout 124 = .ok (.iconst 1, 1) := by decide +kernel
theorem dX11_tellAbout_125 : decode cX11_tellAbout 125 = .ok (.goto 4, 3) := by decide +kernel
theorem dX11_tellAbout_128 : decode cX11_tellAbout 128 = .ok (.iconst 0, 1) := by decide +kernel
theorem dX11_tellAbout_129 : decode cX11_tellAbout 129 = .ok (.ireturn, 1) := by decide +kernel
theorem dX11_tellAbout_130 : decode cX11_tellAbout 130 = .ok (.aload_n 0, 1) := by decide +kernel
theorem dX11_tellAbout_131 : decode cX11_tellAbout 131 = .ok (.getfield 19, 3) := by decide +kernel
theorem dX11_tellAbout_134 : decode cX11_tellAbout 134 = .ok (.aload_n 3, 1) := by decide +kernel
theorem dX11_tellAbout_135 : decode cX11_tellAbout 135 = .ok (.getfield 95, 3) := by decide +kernel
theorem dX11_tellAbout_138 : decode cX11_tellAbout 138 = .ok (.iload_n 1, 1) := by decide +kernel
theorem dX11_tellAbout_139 : decode cX11_tellAbout 139 = .ok (.invokevirtual 222, 3) := by decide +kernel
theorem dX11_tellAbout_142 : decode cX11_tellAbout 142 = .ok (.ireturn, 1) := by decide +kernel
theorem dX11_tellAbout_143 : decode cX11_tellAbout 143 = .ok (.aload_n 0, 1) := by decide +kernel
theorem dX11_tellAbout_144 : decode cX11_tellAbout 144 = .ok (.getfield 19, 3) := by decide +kernel
theorem dX11_tellAbout_147 : decode cX11_tellAbout 147 = .ok (.iload_n 1, 1) := by decide +kernel
theorem dX11_tellAbout_148 : decode cX11_tellAbout 148 = .ok (.invokevirtual 225, 3) := by decide +kernel
theorem dX11_tellAbout_151 : decode cX11_tellAbout 151 = .ok (.ireturn, 1) := by decide +kernel
theorem dX11_tellAbout_152 : decode cX11_tellAbout 152 = .ok (.aload_n 0, 1) := by decide +kernel
theorem dX11_tellAbout_153 : decode cX11_tellAbout 153 = .ok (.getfield 19, 3) := by decide +kernel
theorem dX11_tellAbout_156 : decode cX11_tellAbout 156 = .ok (.iload_n 1, 1) := by decide +kernel
theorem dX11_tellAbout_157 : decode cX11_tellAbout 157 = .ok (.invokevirtual 228, 3) := by decide +kernel
theorem dX11_tellAbout_160 : decode cX11_tellAbout 160 = .ok (.ireturn, 1) := by decide +kernel
theorem dX11_isOfKind_0 : decode cX11_isOfKind 0 = .ok (.iload_n 1, 1) := by decide +kernel
theorem dX11_isOfKind_1 : decode cX11_isOfKind 1 = .ok (.tableswitch 65 0 4 #[35, 45, 50, 55, 60], 35) := by decide +kernel
theorem dX11_isOfKind_36 : decode cX11_isOfKind 36 = .ok (.aload_n 0, 1) := by decide +kernel
theorem dX11_isOfKind_37 : decode cX11_isOfKind 37 = .ok (.ifnull 7, 3) := by decide +kernel
theorem dX11_isOfKind_40 : decode cX11_isOfKind 40 = .ok (.iconst 1, 1) := by decide +kernel
theorem dX11_isOfKind_41 : decode cX11_isOfKind 41 = .ok (.goto 4, 3) := by decide +kernel
theorem dX11_isOfKind_44 : decode cX11_isOfKind 44 = .ok (.iconst 0, 1) := by decide +kernel
theorem dX11_isOfKind_45 : decode cX11_isOfKind 45 = .ok (.ireturn, 1) := by decide +kernel
theorem dX11_isOfKind_46 : decode cX11_isOfKind 46 = .ok (.aload_n 0, 1) := by decide +kernel
theorem dX11_isOfKind_47 : decode cX11_isOfKind 47 = .ok (.instanceof 231, 3) := by decide +kernel
theorem dX11_isOfKind_50 : decode cX11_isOfKind 50 = .ok (.ireturn, 1) := by decide +kernel
theorem dX11_isOfKind_51 : decode cX11_isOfKind 51 = .ok (.aload_n 0, 1) := by decide +kernel
theorem dX11_isOfKind_52 : decode cX11_isOfKind 52 = .ok (.instanceof 233, 3) := by decide +kernel
theorem dX11_isOfKind_55 : decode cX11_isOfKind 55 = .ok (.ireturn, 1) := by decide +kernel
theorem dX11_isOfKind_56 : decode cX11_isOfKind 56 = .ok (.aload_n 0, 1) := by decide +kernel
theorem dX11_isOfKind_57 : decode cX11_isOfKind 57 = .ok (.instanceof 235, 3) := by decide +kernel
theorem dX11_isOfKind_60 : decode cX11_isOfKind 60 = .ok (.ireturn, 1) := by decide +kernel
theorem dX11_isOfKind_61 : decode cX11_isOfKind 61 = .ok (.aload_n 0, 1) := by decide +kernel
theorem dX11_isOfKind_62 : decode cX11_isOfKind 62 = .ok (.instanceof 237, 3) := by decide +kernel
theorem dX11_isOfKind_65 : decode cX11_isOfKind 65 = .ok (.ireturn, 1) := by decide +kernel
theorem dX11_isOfKind_66 : decode cX11_isOfKind 66 = .ok (.iconst 0, 1) := by decide +kernel
theorem dX11_isOfKind_67 : decode cX11_isOfKind 67 = .ok (.ireturn, 1) := by decide +kernel
theorem dX11_at_0 : decode cX11_at 0 = .ok (.aload_n 0, 1) := by decide +kernel
theorem dX11_at_1 : decode cX11_at 1 = .ok (.ifnull 19, 3) := by decide +kernel
theorem dX11_at_4 : decode cX11_at 4 = .ok (.iload_n 1, 1) := by decide +kernel
theorem dX11_at_5 : decode cX11_at 5 = .ok (.ifCond .lt 15, 3) := by decide +kernel
theorem dX11_at_8 : decode cX11_at 8 = .ok (.iload_n 1, 1) := by decide +kernel
theorem dX11_at_9 : decode cX11_at 9 = .ok (.aload_n 0, 1) := by decide +kernel
theorem dX11_at_10 : decode cX11_at 10 = .ok (.arraylength, 1) := by decide +kernel
theorem dX11_at_11 : decode cX11_at 11 = .ok (.if_icmp .ge 9, 3) := by decide +kernel
theorem dX11_at_14 : decode cX11_at 14 = .ok (.aload_n 0, 1) := by decide +kernel
theorem dX11_at_15 : decode cX11_at 15 = .ok (.iload_n 1, 1) := by decide +kernel
theorem dX11_at_16 : decode cX11_at 16 = .ok (.iaload, 1) := by decide +kernel
theorem dX11_at_17 : decode cX11_at 17 = .ok (.goto 4, 3) := by decide +kernel
theorem dX11_at_20 : decode cX11_at 20 = .ok (.iconst 0, 1) := by decide +kernel
theorem dX11_at_21 : decode cX11_at 21 = .ok (.ireturn, 1) := by decide +kernel
theorem dX11_put_0 : decode cX11_put 0 = .ok (.aload_n 0, 1) := by decide +kernel
theorem dX11_put_1 : decode cX11_put 1 = .ok (.ifnull 17, 3) := by decide +kernel
theorem dX11_put_4 : decode cX11_put 4 = .ok (.iload_n 1, 1) := by decide +kernel
theorem dX11_put_5 : decode cX11_put 5 = .ok (.ifCond .lt 13, 3) := by decide +kernel
theorem dX11_put_8 : decode cX11_put 8 = .ok (.iload_n 1, 1) := by decide +kernel
theorem dX11_put_9 : decode cX11_put 9 = .ok (.aload_n 0, 1) := by decide +kernel
theorem dX11_put_10 : decode cX11_put 10 = .ok (.arraylength, 1) := by decide +kernel
theorem dX11_put_11 : decode cX11_put 11 = .ok (.if_icmp .ge 7, 3) := by decide +kernel
theorem dX11_put_14 : decode cX11_put 14 = .ok (.aload_n 0, 1) := by decide +kernel
theorem dX11_put_15 : decode cX11_put 15 = .ok (.iload_n 1, 1) := by decide +kernel
theorem dX11_put_16 : decode cX11_put 16 = .ok (.iload_n 2, 1) := by decide +kernel
theorem dX11_put_17 : decode cX11_put 17 = .ok (.iastore, 1) := by decide +kernel
theorem dX11_put_18 : decode cX11_put 18 = .ok (.return_, 1) := by decide +kernel
theorem dX11_shiftOf_0 : decode cX11_shiftOf 0 = .ok (.iconst 2, 1) := by decide +kernel
theorem dX11_shiftOf_1 : decode cX11_shiftOf 1 = .ok (.iconst 4, 1) := by decide +kernel
theorem dX11_shiftOf_2 : decode cX11_shiftOf 2 = .ok (.iload_n 0, 1) := by decide +kernel
theorem dX11_shiftOf_3 : decode cX11_shiftOf 3 = .ok (.isub, 1) := by decide +kernel
theorem dX11_shiftOf_4 : decode cX11_shiftOf 4 = .ok (.imul, 1) := by decide +kernel
theorem dX11_shiftOf_5 : decode cX11_shiftOf 5 = .ok (.ireturn, 1) := by decide +kernel
theorem dX11_roomIn_0 : decode cX11_roomIn 0 = .ok (.iload_n 0, 1) := by decide +kernel
theorem dX11_roomIn_1 : decode cX11_roomIn 1 = .ok (.iload_n 1, 1) := by decide +kernel
theorem dX11_roomIn_2 : decode cX11_roomIn 2 = .ok (.invokestatic 239, 3) := by decide +kernel
theorem dX11_roomIn_5 : decode cX11_roomIn 5 = .ok (.ishr, 1) := by decide +kernel
theorem dX11_roomIn_6 : decode cX11_roomIn 6 = .ok (.iconst 3, 1) := by decide +kernel
theorem dX11_roomIn_7 : decode cX11_roomIn 7 = .ok (.iand, 1) := by decide +kernel
theorem dX11_roomIn_8 : decode cX11_roomIn 8 = .ok (.ireturn, 1) := by decide +kernel
theorem dX11_withRoom_0 : decode cX11_withRoom 0 = .ok (.iload_n 1, 1) := by decide +kernel
theorem dX11_withRoom_1 : decode cX11_withRoom 1 = .ok (.invokestatic 239, 3) := by decide +kernel
theorem dX11_withRoom_4 : decode cX11_withRoom 4 = .ok (.istore_n 3, 1) := by decide +kernel
theorem dX11_withRoom_5 : decode cX11_withRoom 5 = .ok (.iload_n 0, 1) := by decide +kernel
theorem dX11_withRoom_6 : decode cX11_withRoom 6 = .ok (.iconst 3, 1) := by decide +kernel
theorem dX11_withRoom_7 : decode cX11_withRoom 7 = .ok (.iload_n 3, 1) := by decide +kernel
theorem dX11_withRoom_8 : decode cX11_withRoom 8 = .ok (.ishl, 1) := by decide +kernel
theorem dX11_withRoom_9 : decode cX11_withRoom 9 = .ok (.iconst (-1), 1) := by decide +kernel
theorem dX11_withRoom_10 : decode cX11_withRoom 10 = .ok (.ixor, 1) := by decide +kernel
theorem dX11_withRoom_11 : decode cX11_withRoom 11 = .ok (.iand, 1) := by decide +kernel
theorem dX11_withRoom_12 : decode cX11_withRoom 12 = .ok (.iload_n 2, 1) := by decide +kernel
theorem dX11_withRoom_13 : decode cX11_withRoom 13 = .ok (.iload_n 3, 1) := by decide +kernel
theorem dX11_withRoom_14 : decode cX11_withRoom 14 = .ok (.ishl, 1) := by decide +kernel
theorem dX11_withRoom_15 : decode cX11_withRoom 15 = .ok (.ior, 1) := by decide +kernel
theorem dX11_withRoom_16 : decode cX11_withRoom 16 = .ok (.ireturn, 1) := by decide +kernel
theorem dX12_init_0 : decode cX12_init 0 = .ok (.aload_n 0, 1) := by decide +kernel
theorem dX12_init_1 : decode cX12_init 1 = .ok (.invokespecial 1, 3) := by decide +kernel
theorem dX12_init_4 : decode cX12_init 4 = .ok (.aload_n 0, 1) := by decide +kernel
theorem dX12_init_5 : decode cX12_init 5 = .ok (.iconst 5, 1) := by decide +kernel
theorem dX12_init_6 : decode cX12_init 6 = .ok (.newarray .int, 2) := by decide +kernel
theorem dX12_init_8 : decode cX12_init 8 = .ok (.putfield 7, 3) := by decide +kernel
theorem dX12_init_11 : decode cX12_init 11 = .ok (.aload_n 0, 1) := by decide +kernel
theorem dX12_init_12 : decode cX12_init 12 = .ok (.bipush 10, 2) := by decide +kernel
theorem dX12_init_14 : decode cX12_init 14 = .ok (.newarray .int, 2) := by decide +kernel
theorem dX12_init_16 : decode cX12_init 16 = .ok (.putfield 13, 3) := by decide +kernel
theorem dX12_init_19 : decode cX12_init 19 = .ok (.aload_n 0, 1) := by decide +kernel
theorem dX12_init_20 : decode cX12_init 20 = .ok (.iconst 5, 1) := by decide +kernel
theorem dX12_init_21 : decode cX12_init 21 = .ok (.newarray .int, 2) := by decide +kernel
theorem dX12_init_23 : decode cX12_init 23 = .ok (.putfield 16, 3) := by decide +kernel
theorem dX12_init_26 : decode cX12_init 26 = .ok (.aload_n 0, 1) := by decide +kernel
theorem dX12_init_27 : decode cX12_init 27 = .ok (.iconst 5, 1) := by decide +kernel
theorem dX12_init_28 : decode cX12_init 28 = .ok (.newarray .int, 2) := by decide +kernel
theorem dX12_init_30 : decode cX12_init 30 = .ok (.putfield 19, 3) := by decide +kernel
theorem dX12_init_33 : decode cX12_init 33 = .ok (.aload_n 0, 1) := by decide +kernel
theorem dX12_init_34 : decode cX12_init 34 = .ok (.bipush 6, 2) := by decide +kernel
theorem dX12_init_36 : decode cX12_init 36 = .ok (.newarray .int, 2) := by decide +kernel
theorem dX12_init_38 : decode cX12_init 38 = .ok (.putfield 22, 3) := by decide +kernel
theorem dX12_init_41 : decode cX12_init 41 = .ok (.aload_n 0, 1) := by decide +kernel
theorem dX12_init_42 : decode cX12_init 42 = .ok (.bipush 6, 2) := by decide +kernel
theorem dX12_init_44 : decode cX12_init 44 = .ok (.newarray .int, 2) := by decide +kernel
theorem dX12_init_46 : decode cX12_init 46 = .ok (.putfield 25, 3) := by decide +kernel
theorem dX12_init_49 : decode cX12_init 49 = .ok (.aload_n 0, 1) := by decide +kernel
theorem dX12_init_50 : decode cX12_init 50 = .ok (.bipush 6, 2) := by decide +kernel
theorem dX12_init_52 : decode cX12_init 52 = .ok (.newarray .int, 2) := by decide +kernel
theorem dX12_init_54 : decode cX12_init 54 = .ok (.putfield 28, 3) := by decide +kernel
theorem dX12_init_57 : decode cX12_init 57 = .ok (.aload_n 0, 1) := by decide +kernel
theorem dX12_init_58 : decode cX12_init 58 = .ok (.bipush 21, 2) := by decide +kernel
theorem dX12_init_60 : decode cX12_init 60 = .ok (.newarray .byte, 2) := by decide +kernel
theorem dX12_init_62 : decode cX12_init 62 = .ok (.putfield 31, 3) := by decide +kernel
theorem dX12_init_65 : decode cX12_init 65 = .ok (.aload_n 0, 1) := by decide +kernel
theorem dX12_init_66 : decode cX12_init 66 = .ok (.bipush 32, 2) := by decide +kernel
theorem dX12_init_68 : decode cX12_init 68 = .ok (.newarray .int, 2) := by decide +kernel
theorem dX12_init_70 : decode cX12_init 70 = .ok (.putfield 35, 3) := by decide +kernel
theorem dX12_init_73 : decode cX12_init 73 = .ok (.aload_n 0, 1) := by decide +kernel
theorem dX12_init_74 : decode cX12_init 74 = .ok (.iconst 5, 1) := by decide +kernel
theorem dX12_init_75 : decode cX12_init 75 = .ok (.newarray .int, 2) := by decide +kernel
theorem dX12_init_77 : decode cX12_init 77 = .ok (.putfield 38, 3) := by decide +kernel
theorem dX12_init_80 : decode cX12_init 80 = .ok (.aload_n 0, 1) := by decide +kernel
theorem dX12_init_81 : decode cX12_init 81 = .ok (.bipush 10, 2) := by decide +kernel
theorem dX12_init_83 : decode cX12_init 83 = .ok (.newarray .int, 2) := by decide +kernel
theorem dX12_init_85 : decode cX12_init 85 = .ok (.putfield 41, 3) := by decide +kernel
theorem dX12_init_88 : decode cX12_init 88 = .ok (.aload_n 0, 1) := by decide +kernel
theorem dX12_init_89 : decode cX12_init 89 = .ok (.iconst 5, 1) := by decide +kernel
theorem dX12_init_90 : decode cX12_init 90 = .ok (.newarray .int, 2) := by decide +kernel
theorem dX12_init_92 : decode cX12_init 92 = .ok (.putfield 44, 3) := by decide +kernel
theorem dX12_init_95 : decode cX12_init 95 = .ok (.aload_n 0, 1) := by decide +kernel
theorem dX12_init_96 : decode cX12_init 96 = .ok (.iconst 5, 1) := by decide +kernel
theorem dX12_init_97 : decode cX12_init 97 = .ok (.newarray .int, 2) := by decide +kernel
theorem dX12_init_99 : decode cX12_init 99 = .ok (.putfield 47, 3) := by decide +kernel
theorem dX12_init_102 : decode cX12_init 102 = .ok (.aload_n 0, 1) := by decide +kernel
theorem dX12_init_103 : decode cX12_init 103 = .ok (.bipush 6, 2) := by decide +kernel
theorem dX12_init_105 : decode cX12_init 105 = .ok (.newarray .int, 2) := by decide +kernel
theorem dX12_init_107 : decode cX12_init 107 = .ok (.putfield 50, 3) := by decide +kernel
theorem dX12_init_110 : decode cX12_init 110 = .ok (.aload_n 0, 1) := by decide +kernel
theorem dX12_init_111 : decode cX12_init 111 = .ok (.bipush 6, 2) := by decide +kernel
theorem dX12_init_113 : decode cX12_init 113 = .ok (.newarray .int, 2) := by decide +kernel
theorem dX12_init_115 : decode cX12_init 115 = .ok (.putfield 53, 3) := by decide +kernel
theorem dX12_init_118 : decode cX12_init 118 = .ok (.aload_n 0, 1) := by decide +kernel
theorem dX12_init_119 : decode cX12_init 119 = .ok (.bipush 6, 2) := by decide +kernel
theorem dX12_init_121 : decode cX12_init 121 = .ok (.newarray .int, 2) := by decide +kernel
theorem dX12_init_123 : decode cX12_init 123 = .ok (.putfield 56, 3) := by decide +kernel
theorem dX12_init_126 : decode cX12_init 126 = .ok (.return_, 1) := by decide +kernel
theorem dX12_within_0 : decode cX12_within 0 = .ok (.iload_n 0, 1) := by decide +kernel
theorem dX12_within_1 : decode cX12_within 1 = .ok (.iload_n 1, 1) := by decide +kernel
theorem dX12_within_2 : decode cX12_within 2 = .ok (.if_icmp .lt 12, 3) := by decide +kernel
theorem dX12_within_5 : decode cX12_within 5 = .ok (.iload_n 0, 1) := by decide +kernel
theorem dX12_within_6 : decode cX12_within 6 = .ok (.iload_n 2, 1) := by decide +kernel
theorem dX12_within_7 : decode cX12_within 7 = .ok (.if_icmp .gt 7, 3) := by decide +kernel
theorem dX12_within_10 : decode cX12_within 10 = .ok (.iconst 1, 1) := by decide +kernel
theorem dX12_within_11 : decode cX12_within 11 = .ok (.goto 4, 3) := by decide +kernel
theorem dX12_within_14 : decode cX12_within 14 = .ok (.iconst 0, 1) := by decide +kernel
theorem dX12_within_15 : decode cX12_within 15 = .ok (.ireturn, 1) := by decide +kernel
theorem dX12_isIn_0 : decode cX12_isIn 0 = .ok (.iload_n 0, 1) := by decide +kernel
theorem dX12_isIn_1 : decode cX12_isIn 1 = .ok (.iload_n 1, 1) := by decide +kernel
theorem dX12_isIn_2 : decode cX12_isIn 2 = .ok (.ishr, 1) := by decide +kernel
theorem dX12_isIn_3 : decode cX12_isIn 3 = .ok (.iconst 1, 1) := by decide +kernel
theorem dX12_isIn_4 : decode cX12_isIn 4 = .ok (.iand, 1) := by decide +kernel
theorem dX12_isIn_5 : decode cX12_isIn 5 = .ok (.iconst 1, 1) := by decide +kernel
theorem dX12_isIn_6 : decode cX12_isIn 6 = .ok (.if_icmp .ne 7, 3) := by decide +kernel
theorem dX12_isIn_9 : decode cX12_isIn 9 = .ok (.iconst 1, 1) := by decide +kernel
theorem dX12_isIn_10 : decode cX12_isIn 10 = .ok (.goto 4, 3) := by decide +kernel
theorem dX12_isIn_13 : decode cX12_isIn 13 = .ok (.iconst 0, 1) := by decide +kernel
theorem dX12_isIn_14 : decode cX12_isIn 14 = .ok (.ireturn, 1) := by decide +kernel
theorem dX12_size_0 : decode cX12_size 0 = .ok (.iconst 0, 1) := by decide +kernel
theorem dX12_size_1 : decode cX12_size 1 = .ok (.istore_n 1, 1) := by decide +kernel
theorem dX12_size_2 : decode cX12_size 2 = .ok (.iconst 0, 1) := by decide +kernel
theorem dX12_size_3 : decode cX12_size 3 = .ok (.istore_n 2, 1) := by decide +kernel
theorem dX12_size_4 : decode cX12_size 4 = .ok (.iload_n 2, 1) := by decide +kernel
theorem dX12_size_5 : decode cX12_size 5 = .ok (.iconst 5, 1) := by decide +kernel
theorem dX12_size_6 : decode cX12_size 6 = .ok (.if_icmp .ge 17, 3) := by decide +kernel
theorem dX12_size_9 : decode cX12_size 9 = .ok (.iload_n 1, 1) := by decide +kernel
theorem dX12_size_10 : decode cX12_size 10 = .ok (.iload_n 0, 1) := by decide +kernel
theorem dX12_size_11 : decode cX12_size 11 = .ok (.iload_n 2, 1) := by decide +kernel
theorem dX12_size_12 : decode cX12_size 12 = .ok (.ishr, 1) := by decide +kernel
theorem dX12_size_13 : decode cX12_size 13 = .ok (.iconst 1, 1) := by decide +kernel
theorem dX12_size_14 : decode cX12_size 14 = .ok (.iand, 1) := by decide +kernel
theorem dX12_size_15 : decode cX12_size 15 = .ok (.iadd, 1) := by decide +kernel
theorem dX12_size_16 : decode cX12_size 16 = .ok (.istore_n 1, 1) := by decide +kernel
theorem dX12_size_17 : decode cX12_size 17 = .ok (.iinc 2 1, 3) := by decide +kernel
theorem dX12_size_20 : decode cX12_size 20 = .ok (.goto (-16), 3) := by decide +kernel
theorem dX12_size_23 : decode cX12_size 23 = .ok (.iload_n 1, 1) := by decide +kernel
theorem dX12_size_24 : decode cX12_size 24 = .ok (.ireturn, 1) := by decide +kernel
theorem dX12_letter_0 : decode cX12_letter 0 = .ok (.iload_n 1, 1) := by decide +kernel
theorem dX12_letter_1 : decode cX12_letter 1 = .ok (.bipush 32, 2) := by decide +kernel
theorem dX12_letter_3 : decode cX12_letter 3 = .ok (.bipush 126, 2) := by decide +kernel
theorem dX12_letter_5 : decode cX12_letter 5 = .ok (.invokestatic 59, 3) := by decide +kernel
theorem dX12_letter_8 : decode cX12_letter 8 = .ok (.ifCond .ne 6, 3) := by decide +kernel
theorem dX12_letter_11 : decode cX12_letter 11 = .ok (.bipush (-102), 2) := by decide +kernel
theorem dX12_letter_13 : decode cX12_letter 13 = .ok (.ireturn, 1) := by decide +kernel
theorem dX12_letter_14 : decode cX12_letter 14 = .ok (.aload_n 0, 1) := by decide +kernel
theorem dX12_letter_15 : decode cX12_letter 15 = .ok (.getfield 63, 3) := by decide +kernel
theorem dX12_letter_18 : decode cX12_letter 18 = .ok (.bipush 21, 2) := by decide +kernel
theorem dX12_letter_20 : decode cX12_letter 20 = .ok (.if_icmp .ne 6, 3) := by decide +kernel
theorem dX12_letter_23 : decode cX12_letter 23 = .ok (.bipush (-104), 2) := by decide +kernel
theorem dX12_letter_25 : decode cX12_letter 25 = .ok (.ireturn, 1) := by decide +kernel
theorem dX12_letter_26 : decode cX12_letter 26 = .ok (.aload_n 0, 1) := by decide +kernel
theorem dX12_letter_27 : decode cX12_letter 27 = .ok (.getfield 31, 3) := by decide +kernel
theorem dX12_letter_30 : decode cX12_letter 30 = .ok (.aload_n 0, 1) := by decide +kernel
theorem dX12_letter_31 : decode cX12_letter 31 = .ok (.getfield 63, 3) := by decide +kernel
theorem dX12_letter_34 : decode cX12_letter 34 = .ok (.iload_n 1, 1) := by decide +kernel
theorem dX12_letter_35 : decode cX12_letter 35 = .ok (.i2b, 1) := by decide +kernel
theorem dX12_letter_36 : decode cX12_letter 36 = .ok (.bastore, 1) := by decide +kernel
theorem dX12_letter_37 : decode cX12_letter 37 = .ok (.aload_n 0, 1) := by decide +kernel
theorem dX12_letter_38 : decode cX12_letter 38 = .ok (.dup, 1) := by decide +kernel
theorem dX12_letter_39 : decode cX12_letter 39 = .ok (.getfield 63, 3) := by decide +kernel
theorem dX12_letter_42 : decode cX12_letter 42 = .ok (.iconst 1, 1) := by decide +kernel
theorem dX12_letter_43 : decode cX12_letter 43 = .ok (.iadd, 1) := by decide +kernel
theorem dX12_letter_44 : decode cX12_letter 44 = .ok (.putfield 63, 3) := by decide +kernel
theorem dX12_letter_47 : decode cX12_letter 47 = .ok (.aload_n 0, 1) := by decide +kernel
theorem dX12_letter_48 : decode cX12_letter 48 = .ok (.getfield 63, 3) := by decide +kernel
theorem dX12_letter_51 : decode cX12_letter 51 = .ok (.ireturn, 1) := by decide +kernel
theorem dX12_blank_0 : decode cX12_blank 0 = .ok (.aload_n 0, 1) := by decide +kernel
theorem dX12_blank_1 : decode cX12_blank 1 = .ok (.getfield 63, 3) := by decide +kernel
theorem dX12_blank_4 : decode cX12_blank 4 = .ok (.istore_n 1, 1) := by decide +kernel
theorem dX12_blank_5 : decode cX12_blank 5 = .ok (.aload_n 0, 1) := by decide +kernel
theorem dX12_blank_6 : decode cX12_blank 6 = .ok (.iconst 0, 1) := by decide +kernel
theorem dX12_blank_7 : decode cX12_blank 7 = .ok (.putfield 63, 3) := by decide +kernel
theorem dX12_blank_10 : decode cX12_blank 10 = .ok (.iload_n 1, 1) := by decide +kernel
theorem dX12_blank_11 : decode cX12_blank 11 = .ok (.ireturn, 1) := by decide +kernel
theorem dX12_kindBy_0 : decode cX12_kindBy 0 = .ok (.iload_n 0, 1) := by decide +kernel
theorem dX12_kindBy_1 : decode cX12_kindBy 1 = .ok (.tableswitch 85 102 116 #[79, 85, 77, 85, 85, 85, 85, 85, 85, 85, 75, 85, 81, 85, 83], 75) := by decide +kernel
theorem dX12_kindBy_76 : decode cX12_kindBy 76 = .ok (.iconst 0, 1) := by decide +kernel
theorem dX12_kindBy_77 : decode cX12_kindBy 77 = .ok (.ireturn, 1) := by decide +kernel
theorem dX12_kindBy_78 : decode cX12_kindBy 78 = .ok (.iconst 1, 1) := by decide +kernel
theorem dX12_kindBy_79 : decode cX12_kindBy 79 = .ok (.ireturn, 1) := by decide +kernel
theorem dX12_kindBy_80 : decode cX12_kindBy 80 = .ok (.iconst 2, 1) := by decide +kernel
theorem dX12_kindBy_81 : decode cX12_kindBy 81 = .ok (.ireturn, 1) := by decide +kernel
theorem dX12_kindBy_82 : decode cX12_kindBy 82 = .ok (.iconst 3, 1) := by decide +kernel
theorem dX12_kindBy_83 : decode cX12_kindBy 83 = .ok (.ireturn, 1) := by decide +kernel
theorem dX12_kindBy_84 : decode cX12_kindBy 84 = .ok (.iconst 4, 1) := by decide +kernel
theorem dX12_kindBy_85 : decode cX12_kindBy 85 = .ok (.ireturn, 1) := by decide +kernel
theorem dX12_kindBy_86 : decode cX12_kindBy 86 = .ok (.iconst (-1), 1) := by decide +kernel
theorem dX12_kindBy_87 : decode cX12_kindBy 87 = .ok (.ireturn, 1) := by decide +kernel
theorem dX12_isGood_0 : decode cX12_isGood 0 = .ok (.aload_n 0, 1) := by decide +kernel
theorem dX12_isGood_1 : decode cX12_isGood 1 = .ok (.getfield 31, 3) := by decide +kernel
theorem dX12_isGood_4 : decode cX12_isGood 4 = .ok (.iload_n 1, 1) := by decide +kernel
theorem dX12_isGood_5 : decode cX12_isGood 5 = .ok (.baload, 1) := by decide +kernel
theorem dX12_isGood_6 : decode cX12_isGood 6 = .ok (.istore_n 2, 1) := by decide +kernel
theorem dX12_isGood_7 : decode cX12_isGood 7 = .ok (.iload_n 1, 1) := by decide +kernel
theorem dX12_isGood_8 : decode cX12_isGood 8 = .ok (.iconst 4, 1) := by decide +kernel
theorem dX12_isGood_9 : decode cX12_isGood 9 = .ok (.irem, 1) := by decide +kernel
theorem dX12_isGood_10 : decode cX12_isGood 10 = .ok (.lookupswitch 58 #[(0, 26), (3, 40)], 26) := by decide +kernel
theorem dX12_isGood_36 : decode cX12_isGood 36 = .ok (.iload_n 2, 1) := by decide +kernel
theorem dX12_isGood_37 : decode cX12_isGood 37 = .ok (.invokestatic 67, 3) := by decide +kernel
theorem dX12_isGood_40 : decode cX12_isGood 40 = .ok (.iconst (-1), 1) := by decide +kernel
theorem dX12_isGood_41 : decode cX12_isGood 41 = .ok (.if_icmp .eq 7, 3) := by decide +kernel
theorem dX12_isGood_44 : decode cX12_isGood 44 = .ok (.iconst 1, 1) := by decide +kernel
theorem dX12_isGood_45 : decode cX12_isGood 45 = .ok (.goto 4, 3) := by decide +kernel
theorem dX12_isGood_48 : decode cX12_isGood 48 = .ok (.iconst 0, 1) := by decide +kernel
theorem dX12_isGood_49 : decode cX12_isGood 49 = .ok (.ireturn, 1) := by decide +kernel
theorem dX12_isGood_50 : decode cX12_isGood 50 = .ok (.iload_n 2, 1) := by decide +kernel
theorem dX12_isGood_51 : decode cX12_isGood 51 = .ok (.bipush 44, 2) := by decide +kernel
theorem dX12_isGood_53 : decode cX12_isGood 53 = .ok (.if_icmp .ne 13, 3) := by decide +kernel
theorem dX12_isGood_56 : decode cX12_isGood 56 = .ok (.iload_n 1, 1) := by decide +kernel
theorem dX12_isGood_57 : decode cX12_isGood 57 = .ok (.bipush 19, 2) := by decide +kernel
theorem dX12_isGood_59 : decode cX12_isGood 59 = .ok (.if_icmp .ge 7, 3) := by decide +kernel
theorem dX12_isGood_62 : decode cX12_isGood 62 = .ok (.iconst 1, 1) := by decide +kernel
theorem dX12_isGood_63 : decode cX12_isGood 63 = .ok (.goto 4, 3) := by decide +kernel
theorem dX12_isGood_66 : decode cX12_isGood 66 = .ok (.iconst 0, 1) := by decide +kernel
theorem dX12_isGood_67 : decode cX12_isGood 67 = .ok (.ireturn, 1) := by decide +kernel
theorem dX12_isGood_68 : decode cX12_isGood 68 = .ok (.iload_n 2, 1) := by decide +kernel
theorem dX12_isGood_69 : decode cX12_isGood 69 = .ok (.bipush 48, 2) := by decide +kernel
theorem dX12_isGood_71 : decode cX12_isGood 71 = .ok (.isub, 1) := by decide +kernel
theorem dX12_isGood_72 : decode cX12_isGood 72 = .ok (.iconst 0, 1) := by decide +kernel
theorem dX12_isGood_73 : decode cX12_isGood 73 = .ok (.iconst 4, 1) := by decide +kernel
theorem dX12_isGood_74 : decode cX12_isGood 74 = .ok (.invokestatic 59, 3) := by decide +kernel
theorem dX12_isGood_77 : decode cX12_isGood 77 = .ok (.ireturn, 1) := by decide +kernel
theorem dX12_isWhole_0 : decode cX12_isWhole 0 = .ok (.aload_n 0, 1) := by decide +kernel
theorem dX12_isWhole_1 : decode cX12_isWhole 1 = .ok (.getfield 63, 3) := by decide +kernel
theorem dX12_isWhole_4 : decode cX12_isWhole 4 = .ok (.iconst 4, 1) := by decide +kernel
theorem dX12_isWhole_5 : decode cX12_isWhole 5 = .ok (.irem, 1) := by decide +kernel
theorem dX12_isWhole_6 : decode cX12_isWhole 6 = .ok (.iconst 3, 1) := by decide +kernel
theorem dX12_isWhole_7 : decode cX12_isWhole 7 = .ok (.if_icmp .ne 16, 3) := by decide +kernel
theorem dX12_isWhole_10 : decode cX12_isWhole 10 = .ok (.aload_n 0, 1) := by decide +kernel
theorem dX12_isWhole_11 : decode cX12_isWhole 11 = .ok (.getfield 63, 3) := by decide +kernel
theorem dX12_isWhole_14 : decode cX12_isWhole 14 = .ok (.bipush 6, 2) := by decide +kernel
theorem dX12_isWhole_16 : decode cX12_isWhole 16 = .ok (.if_icmp .le 7, 3) := by decide +kernel
theorem dX12_isWhole_19 : decode cX12_isWhole 19 = .ok (.iconst 1, 1) := by decide +kernel
theorem dX12_isWhole_20 : decode cX12_isWhole 20 = .ok (.goto 4, 3) := by decide +kernel
theorem dX12_isWhole_23 : decode cX12_isWhole 23 = .ok (.iconst 0, 1) := by decide +kernel
theorem dX12_isWhole_24 : decode cX12_isWhole 24 = .ok (.ireturn, 1) := by decide +kernel
theorem dX12_faultNow_0 : decode cX12_faultNow 0 = .ok (.iconst 0, 1) := by decide +kernel
theorem dX12_faultNow_1 : decode cX12_faultNow 1 = .ok (.istore_n 1, 1) := by decide +kernel
theorem dX12_faultNow_2 : decode cX12_faultNow 2 = .ok (.iload_n 1, 1) := by decide +kernel
theorem dX12_faultNow_3 : decode cX12_faultNow 3 = .ok (.aload_n 0, 1) := by decide +kernel
theorem dX12_faultNow_4 : decode cX12_faultNow 4 = .ok (.getfield 63, 3) := by decide +kernel
theorem dX12_faultNow_7 : decode cX12_faultNow 7 = .ok (.if_icmp .ge 17, 3) := by decide +kernel
theorem dX12_faultNow_10 : decode cX12_faultNow 10 = .ok (.aload_n 0, 1) := by decide +kernel
theorem dX12_faultNow_11 : decode cX12_faultNow 11 = .ok (.iload_n 1, 1) := by decide +kernel
theorem dX12_faultNow_12 : decode cX12_faultNow 12 = .ok (.invokevirtual 71, 3) := by decide +kernel
theorem dX12_faultNow_15 : decode cX12_faultNow 15 = .ok (.ifCond .eq 9, 3) := by decide +kernel
theorem dX12_faultNow_18 : decode cX12_faultNow 18 = .ok (.iinc 1 1, 3) := by decide +kernel
theorem dX12_faultNow_21 : decode cX12_faultNow 21 = .ok (.goto (-19), 3) := by decide +kernel
theorem dX12_faultNow_24 : decode cX12_faultNow 24 = .ok (.iload_n 1, 1) := by decide +kernel
theorem dX12_faultNow_25 : decode cX12_faultNow 25 = .ok (.aload_n 0, 1) := by decide +kernel
theorem dX12_faultNow_26 : decode cX12_faultNow 26 = .ok (.getfield 63, 3) := by decide +kernel
theorem dX12_faultNow_29 : decode cX12_faultNow 29 = .ok (.if_icmp .lt 10, 3) := by decide +kernel
theorem dX12_faultNow_32 : decode cX12_faultNow 32 = .ok (.aload_n 0, 1) := by decide +kernel
theorem dX12_faultNow_33 : decode cX12_faultNow 33 = .ok (.invokevirtual 75, 3) := by decide +kernel
theorem dX12_faultNow_36 : decode cX12_faultNow 36 = .ok (.ifCond .ne 5, 3) := by decide +kernel
theorem dX12_faultNow_39 : decode cX12_faultNow 39 = .ok (.iload_n 1, 1) := by decide +kernel
theorem dX12_faultNow_40 : decode cX12_faultNow 40 = .ok (.ireturn, 1) := by decide +kernel
theorem dX12_faultNow_41 : decode cX12_faultNow 41 = .ok (.aload_n 0, 1) := by decide +kernel
theorem dX12_faultNow_42 : decode cX12_faultNow 42 = .ok (.getfield 63, 3) := by decide +kernel
theorem dX12_faultNow_45 : decode cX12_faultNow 45 = .ok (.iconst 1, 1) := by decide +kernel
theorem dX12_faultNow_46 : decode cX12_faultNow 46 = .ok (.iadd, 1) := by decide +kernel
theorem dX12_faultNow_47 : decode cX12_faultNow 47 = .ok (.iconst 4, 1) := by decide +kernel
theorem dX12_faultNow_48 : decode cX12_faultNow 48 = .ok (.idiv, 1) := by decide +kernel
theorem dX12_faultNow_49 : decode cX12_faultNow 49 = .ok (.istore_n 2, 1) := by decide +kernel
theorem dX12_faultNow_50 : decode cX12_faultNow 50 = .ok (.iconst 0, 1) := by decide +kernel
theorem dX12_faultNow_51 : decode cX12_faultNow 51 = .ok (.istore_n 3, 1) := by decide +kernel
theorem dX12_faultNow_52 : decode cX12_faultNow 52 = .ok (.iload_n 3, 1) := by decide +kernel
theorem dX12_faultNow_53 : decode cX12_faultNow 53 = .ok (.aload_n 0, 1) := by decide +kernel
theorem dX12_faultNow_54 : decode cX12_faultNow 54 = .ok (.getfield 63, 3) := by decide +kernel
theorem dX12_faultNow_57 : decode cX12_faultNow 57 = .ok (.if_icmp .ge 35, 3) := by decide +kernel
theorem dX12_faultNow_60 : decode cX12_faultNow 60 = .ok (.iload_n 3, 1) := by decide +kernel
theorem dX12_faultNow_61 : decode cX12_faultNow 61 = .ok (.iconst 4, 1) := by decide +kernel
theorem dX12_faultNow_62 : decode cX12_faultNow 62 = .ok (.irem, 1) := by decide +kernel
theorem dX12_faultNow_63 : decode cX12_faultNow 63 = .ok (.ifCond .eq 23, 3) := by decide +kernel
theorem dX12_faultNow_66 : decode cX12_faultNow 66 = .ok (.iload_n 3, 1) := by decide +kernel
theorem dX12_faultNow_67 : decode cX12_faultNow 67 = .ok (.iconst 4, 1) := by decide +kernel
theorem dX12_faultNow_68 : decode cX12_faultNow 68 = .ok (.irem, 1) := by decide +kernel
theorem dX12_faultNow_69 : decode cX12_faultNow 69 = .ok (.iconst 3, 1) := by decide +kernel
theorem dX12_faultNow_70 : decode cX12_faultNow 70 = .ok (.if_icmp .eq 16, 3) := by decide +kernel
theorem dX12_faultNow_73 : decode cX12_faultNow 73 = .ok (.aload_n 0, 1) := by decide +kernel
theorem dX12_faultNow_74 : decode cX12_faultNow 74 = .ok (.getfield 31, 3) := by decide +kernel
theorem dX12_faultNow_77 : decode cX12_faultNow 77 = .ok (.iload_n 3, 1) := by decide +kernel
theorem dX12_faultNow_78 : decode cX12_faultNow 78 = .ok (.baload, 1) := by decide +kernel
theorem dX12_faultNow_79 : decode cX12_faultNow 79 = .ok (.bipush 48, 2) := by decide +kernel
theorem dX12_faultNow_81 : decode cX12_faultNow 81 = .ok (.isub, 1) := by decide +kernel
theorem dX12_faultNow_82 : decode cX12_faultNow 82 = .ok (.iload_n 2, 1) := by decide +kernel
theorem dX12_faultNow_83 : decode cX12_faultNow 83 = .ok (.if_icmp .ge 9, 3) := by decide +kernel
theorem dX12_faultNow_86 : decode cX12_faultNow 86 = .ok (.iinc 3 1, 3) := by decide +kernel
theorem dX12_faultNow_89 : decode cX12_faultNow 89 = .ok (.goto (-37), 3) := by decide +kernel
theorem dX12_faultNow_92 : decode cX12_faultNow 92 = .ok (.iload_n 3, 1) := by decide +kernel
theorem dX12_faultNow_93 : decode cX12_faultNow 93 = .ok (.ireturn, 1) := by decide +kernel
theorem dX12_fault_0 : decode cX12_fault 0 = .ok (.aload_n 0, 1) := by decide +kernel
theorem dX12_fault_1 : decode cX12_fault 1 = .ok (.invokevirtual 79, 3) := by decide +kernel
theorem dX12_fault_4 : decode cX12_fault 4 = .ok (.ireturn, 1) := by decide +kernel
theorem dX12_town_0 : decode cX12_town 0 = .ok (.aload_n 0, 1) := by decide +kernel
theorem dX12_town_1 : decode cX12_town 1 = .ok (.invokevirtual 75, 3) := by decide +kernel
theorem dX12_town_4 : decode cX12_town 4 = .ok (.ifCond .eq 14, 3) := by decide +kernel
theorem dX12_town_7 : decode cX12_town 7 = .ok (.aload_n 0, 1) := by decide +kernel
theorem dX12_town_8 : decode cX12_town 8 = .ok (.invokevirtual 79, 3) := by decide +kernel
theorem dX12_town_11 : decode cX12_town 11 = .ok (.aload_n 0, 1) := by decide +kernel
theorem dX12_town_12 : decode cX12_town 12 = .ok (.getfield 63, 3) := by decide +kernel
theorem dX12_town_15 : decode cX12_town 15 = .ok (.if_icmp .eq 6, 3) := by decide +kernel
theorem dX12_town_18 : decode cX12_town 18 = .ok (.bipush (-103), 2) := by decide +kernel
theorem dX12_town_20 : decode cX12_town 20 = .ok (.ireturn, 1) := by decide +kernel
theorem dX12_town_21 : decode cX12_town 21 = .ok (.aload_n 0, 1) := by decide +kernel
theorem dX12_town_22 : decode cX12_town 22 = .ok (.aload_n 0, 1) := by decide +kernel
theorem dX12_town_23 : decode cX12_town 23 = .ok (.getfield 63, 3) := by decide +kernel
theorem dX12_town_26 : decode cX12_town 26 = .ok (.iconst 1, 1) := by decide +kernel
theorem dX12_town_27 : decode cX12_town 27 = .ok (.iadd, 1) := by decide +kernel
theorem dX12_town_28 : decode cX12_town 28 = .ok (.iconst 4, 1) := by decide +kernel
theorem dX12_town_29 : decode cX12_town 29 = .ok (.idiv, 1) := by decide +kernel
theorem dX12_town_30 : decode cX12_town 30 = .ok (.putfield 83, 3) := by decide +kernel
theorem dX12_town_33 : decode cX12_town 33 = .ok (.iconst 0, 1) := by decide +kernel
theorem dX12_town_34 : decode cX12_town 34 = .ok (.istore_n 1, 1) := by decide +kernel
theorem dX12_town_35 : decode cX12_town 35 = .ok (.iload_n 1, 1) := by decide +kernel
theorem dX12_town_36 : decode cX12_town 36 = .ok (.aload_n 0, 1) := by decide +kernel
theorem dX12_town_37 : decode cX12_town 37 = .ok (.getfield 83, 3) := by decide +kernel
theorem dX12_town_40 : decode cX12_town 40 = .ok (.if_icmp .ge 84, 3) := by decide +kernel
theorem dX12_town_43 : decode cX12_town 43 = .ok (.aload_n 0, 1) := by decide +kernel
theorem dX12_town_44 : decode cX12_town 44 = .ok (.getfield 7, 3) := by decide +kernel
theorem dX12_town_47 : decode cX12_town 47 = .ok (.iload_n 1, 1) := by decide +kernel
theorem dX12_town_48 : decode cX12_town 48 = .ok (.aload_n 0, 1) := by decide +kernel
theorem dX12_town_49 : decode cX12_town 49 = .ok (.getfield 31, 3) := by decide +kernel
theorem dX12_town_52 : decode cX12_town 52 = .ok (.iconst 4, 1) := by decide +kernel
theorem dX12_town_53 : decode cX12_town 53 = .ok (.iload_n 1, 1) := by decide +kernel
theorem dX12_town_54 : decode cX12_town 54 = .ok (.imul, 1) := by decide +kernel
theorem dX12_town_55 : decode cX12_town 55 = .ok (.baload, 1) := by decide +kernel
theorem dX12_town_56 : decode cX12_town 56 = .ok (.invokestatic 67, 3) := by decide +kernel
theorem dX12_town_59 : decode cX12_town 59 = .ok (.iastore, 1) := by decide +kernel
theorem dX12_town_60 : decode cX12_town 60 = .ok (.aload_n 0, 1) := by decide +kernel
theorem dX12_town_61 : decode cX12_town 61 = .ok (.getfield 13, 3) := by decide +kernel
theorem dX12_town_64 : decode cX12_town 64 = .ok (.iconst 2, 1) := by decide +kernel
theorem dX12_town_65 : decode cX12_town 65 = .ok (.iload_n 1, 1) := by decide +kernel
theorem dX12_town_66 : decode cX12_town 66 = .ok (.imul, 1) := by decide +kernel
theorem dX12_town_67 : decode cX12_town 67 = .ok (.aload_n 0, 1) := by decide +kernel
theorem dX12_town_68 : decode cX12_town 68 = .ok (.getfield 31, 3) := by decide +kernel
theorem dX12_town_71 : decode cX12_town 71 = .ok (.iconst 4, 1) := by decide +kernel
theorem dX12_town_72 : decode cX12_town 72 = .ok (.iload_n 1, 1) := by decide +kernel
theorem dX12_town_73 : decode cX12_town 73 = .ok (.imul, 1) := by decide +kernel
theorem dX12_town_74 : decode cX12_town 74 = .ok (.iconst 1, 1) := by decide +kernel
end
section
theorem dX12_town_75 : decode cX12_town 75 = .ok (.iadd, 1) := by decide +kernel
theorem dX12_town_76 : decode cX12_town 76 = .ok (.baload, 1) := by decide +kernel
theorem dX12_town_77 : decode cX12_town 77 = .ok (.bipush 48, 2) := by decide +kernel
theorem dX12_town_79 : decode cX12_town 79 = .ok (.isub, 1) := by decide +kernel
theorem dX12_town_80 : decode cX12_town 80 = .ok (.iastore, 1) := by decide +kernel
theorem dX12_town_81 : decode cX12_town 81 = .ok (.aload_n 0, 1) := by decide +kernel
theorem dX12_town_82 : decode cX12_town 82 = .ok (.getfield 13, 3) := by decide +kernel
theorem dX12_town_85 : decode cX12_town 85 = .ok (.iconst 2, 1) := by decide +kernel
theorem dX12_town_86 : decode cX12_town 86 = .ok (.iload_n 1, 1) := by decide +kernel
theorem dX12_town_87 : decode cX12_town 87 = .ok (.imul, 1) := by decide +kernel
theorem dX12_town_88 : decode cX12_town 88 = .ok (.iconst 1, 1) := by decide +kernel
theorem dX12_town_89 : decode cX12_town 89 = .ok (.iadd, 1) := by decide +kernel
theorem dX12_town_90 : decode cX12_town 90 = .ok (.aload_n 0, 1) := by decide +kernel
theorem dX12_town_91 : decode cX12_town 91 = .ok (.getfield 31, 3) := by decide +kernel
theorem dX12_town_94 : decode cX12_town 94 = .ok (.iconst 4, 1) := by decide +kernel
theorem dX12_town_95 : decode cX12_town 95 = .ok (.iload_n 1, 1) := by decide +kernel
theorem dX12_town_96 : decode cX12_town 96 = .ok (.imul, 1) := by decide +kernel
theorem dX12_town_97 : decode cX12_town 97 = .ok (.iconst 2, 1) := by decide +kernel
theorem dX12_town_98 : decode cX12_town 98 = .ok (.iadd, 1) := by decide +kernel
theorem dX12_town_99 : decode cX12_town 99 = .ok (.baload, 1) := by decide +kernel
theorem dX12_town_100 : decode cX12_town 100 = .ok (.bipush 48, 2) := by decide +kernel
theorem dX12_town_102 : decode cX12_town 102 = .ok (.isub, 1) := by decide +kernel
theorem dX12_town_103 : decode cX12_town 103 = .ok (.iastore, 1) := by decide +kernel
theorem dX12_town_104 : decode cX12_town 104 = .ok (.aload_n 0, 1) := by decide +kernel
theorem dX12_town_105 : decode cX12_town 105 = .ok (.getfield 16, 3) := by decide +kernel
theorem dX12_town_108 : decode cX12_town 108 = .ok (.iload_n 1, 1) := by decide +kernel
theorem dX12_town_109 : decode cX12_town 109 = .ok (.iconst 0, 1) := by decide +kernel
theorem dX12_town_110 : decode cX12_town 110 = .ok (.iastore, 1) := by decide +kernel
theorem dX12_town_111 : decode cX12_town 111 = .ok (.aload_n 0, 1) := by decide +kernel
theorem dX12_town_112 : decode cX12_town 112 = .ok (.getfield 19, 3) := by decide +kernel
theorem dX12_town_115 : decode cX12_town 115 = .ok (.iload_n 1, 1) := by decide +kernel
theorem dX12_town_116 : decode cX12_town 116 = .ok (.iconst 0, 1) := by decide +kernel
theorem dX12_town_117 : decode cX12_town 117 = .ok (.iastore, 1) := by decide +kernel
theorem dX12_town_118 : decode cX12_town 118 = .ok (.iinc 1 1, 3) := by decide +kernel
theorem dX12_town_121 : decode cX12_town 121 = .ok (.goto (-86), 3) := by decide +kernel
theorem dX12_town_124 : decode cX12_town 124 = .ok (.aload_n 0, 1) := by decide +kernel
theorem dX12_town_125 : decode cX12_town 125 = .ok (.dup, 1) := by decide +kernel
theorem dX12_town_126 : decode cX12_town 126 = .ok (.getfield 86, 3) := by decide +kernel
theorem dX12_town_129 : decode cX12_town 129 = .ok (.iconst 1, 1) := by decide +kernel
theorem dX12_town_130 : decode cX12_town 130 = .ok (.iadd, 1) := by decide +kernel
theorem dX12_town_131 : decode cX12_town 131 = .ok (.putfield 86, 3) := by decide +kernel
theorem dX12_town_134 : decode cX12_town 134 = .ok (.aload_n 0, 1) := by decide +kernel
theorem dX12_town_135 : decode cX12_town 135 = .ok (.iconst 0, 1) := by decide +kernel
theorem dX12_town_136 : decode cX12_town 136 = .ok (.putfield 89, 3) := by decide +kernel
theorem dX12_town_139 : decode cX12_town 139 = .ok (.aload_n 0, 1) := by decide +kernel
theorem dX12_town_140 : decode cX12_town 140 = .ok (.iconst 0, 1) := by decide +kernel
theorem dX12_town_141 : decode cX12_town 141 = .ok (.putfield 92, 3) := by decide +kernel
theorem dX12_town_144 : decode cX12_town 144 = .ok (.aload_n 0, 1) := by decide +kernel
theorem dX12_town_145 : decode cX12_town 145 = .ok (.iconst 0, 1) := by decide +kernel
theorem dX12_town_146 : decode cX12_town 146 = .ok (.putfield 95, 3) := by decide +kernel
theorem dX12_town_149 : decode cX12_town 149 = .ok (.aload_n 0, 1) := by decide +kernel
theorem dX12_town_150 : decode cX12_town 150 = .ok (.iconst 0, 1) := by decide +kernel
theorem dX12_town_151 : decode cX12_town 151 = .ok (.putfield 63, 3) := by decide +kernel
theorem dX12_town_154 : decode cX12_town 154 = .ok (.aload_n 0, 1) := by decide +kernel
theorem dX12_town_155 : decode cX12_town 155 = .ok (.getfield 83, 3) := by decide +kernel
theorem dX12_town_158 : decode cX12_town 158 = .ok (.ireturn, 1) := by decide +kernel
theorem dX12_isOne_0 : decode cX12_isOne 0 = .ok (.iload_n 1, 1) := by decide +kernel
theorem dX12_isOne_1 : decode cX12_isOne 1 = .ok (.iconst 0, 1) := by decide +kernel
theorem dX12_isOne_2 : decode cX12_isOne 2 = .ok (.aload_n 0, 1) := by decide +kernel
theorem dX12_isOne_3 : decode cX12_isOne 3 = .ok (.getfield 83, 3) := by decide +kernel
theorem dX12_isOne_6 : decode cX12_isOne 6 = .ok (.iconst 1, 1) := by decide +kernel
theorem dX12_isOne_7 : decode cX12_isOne 7 = .ok (.isub, 1) := by decide +kernel
theorem dX12_isOne_8 : decode cX12_isOne 8 = .ok (.invokestatic 59, 3) := by decide +kernel
theorem dX12_isOne_11 : decode cX12_isOne 11 = .ok (.ireturn, 1) := by decide +kernel
theorem dX12_isCompany_0 : decode cX12_isCompany 0 = .ok (.iload_n 1, 1) := by decide +kernel
theorem dX12_isCompany_1 : decode cX12_isCompany 1 = .ok (.iconst 0, 1) := by decide +kernel
theorem dX12_isCompany_2 : decode cX12_isCompany 2 = .ok (.iconst 1, 1) := by decide +kernel
theorem dX12_isCompany_3 : decode cX12_isCompany 3 = .ok (.aload_n 0, 1) := by decide +kernel
theorem dX12_isCompany_4 : decode cX12_isCompany 4 = .ok (.getfield 83, 3) := by decide +kernel
theorem dX12_isCompany_7 : decode cX12_isCompany 7 = .ok (.ishl, 1) := by decide +kernel
theorem dX12_isCompany_8 : decode cX12_isCompany 8 = .ok (.iconst 1, 1) := by decide +kernel
theorem dX12_isCompany_9 : decode cX12_isCompany 9 = .ok (.isub, 1) := by decide +kernel
theorem dX12_isCompany_10 : decode cX12_isCompany 10 = .ok (.invokestatic 59, 3) := by decide +kernel
theorem dX12_isCompany_13 : decode cX12_isCompany 13 = .ok (.ireturn, 1) := by decide +kernel
theorem dX12_isThere_0 : decode cX12_isThere 0 = .ok (.iload_n 2, 1) := by decide +kernel
theorem dX12_isThere_1 : decode cX12_isThere 1 = .ok (.iload_n 1, 1) := by decide +kernel
theorem dX12_isThere_2 : decode cX12_isThere 2 = .ok (.if_icmp .eq 24, 3) := by decide +kernel
theorem dX12_isThere_5 : decode cX12_isThere 5 = .ok (.iload_n 3, 1) := by decide +kernel
theorem dX12_isThere_6 : decode cX12_isThere 6 = .ok (.iload_n 2, 1) := by decide +kernel
theorem dX12_isThere_7 : decode cX12_isThere 7 = .ok (.invokestatic 98, 3) := by decide +kernel
theorem dX12_isThere_10 : decode cX12_isThere 10 = .ok (.ifCond .eq 20, 3) := by decide +kernel
theorem dX12_isThere_13 : decode cX12_isThere 13 = .ok (.aload_n 0, 1) := by decide +kernel
theorem dX12_isThere_14 : decode cX12_isThere 14 = .ok (.getfield 19, 3) := by decide +kernel
theorem dX12_isThere_17 : decode cX12_isThere 17 = .ok (.iload_n 1, 1) := by decide +kernel
theorem dX12_isThere_18 : decode cX12_isThere 18 = .ok (.iaload, 1) := by decide +kernel
theorem dX12_isThere_19 : decode cX12_isThere 19 = .ok (.iload_n 2, 1) := by decide +kernel
theorem dX12_isThere_20 : decode cX12_isThere 20 = .ok (.invokestatic 98, 3) := by decide +kernel
theorem dX12_isThere_23 : decode cX12_isThere 23 = .ok (.ifCond .ne 7, 3) := by decide +kernel
theorem dX12_isThere_26 : decode cX12_isThere 26 = .ok (.iconst 1, 1) := by decide +kernel
theorem dX12_isThere_27 : decode cX12_isThere 27 = .ok (.goto 4, 3) := by decide +kernel
theorem dX12_isThere_30 : decode cX12_isThere 30 = .ok (.iconst 0, 1) := by decide +kernel
theorem dX12_isThere_31 : decode cX12_isThere 31 = .ok (.ireturn, 1) := by decide +kernel
theorem dX12_isWrittenBy_0 : decode cX12_isWrittenBy 0 = .ok (.aload_n 0, 1) := by decide +kernel
theorem dX12_isWrittenBy_1 : decode cX12_isWrittenBy 1 = .ok (.iload_n 1, 1) := by decide +kernel
theorem dX12_isWrittenBy_2 : decode cX12_isWrittenBy 2 = .ok (.iload_n 2, 1) := by decide +kernel
theorem dX12_isWrittenBy_3 : decode cX12_isWrittenBy 3 = .ok (.iload 4, 2) := by decide +kernel
theorem dX12_isWrittenBy_5 : decode cX12_isWrittenBy 5 = .ok (.invokevirtual 102, 3) := by decide +kernel
theorem dX12_isWrittenBy_8 : decode cX12_isWrittenBy 8 = .ok (.istore 5, 2) := by decide +kernel
theorem dX12_isWrittenBy_10 : decode cX12_isWrittenBy 10 = .ok (.aload_n 0, 1) := by decide +kernel
theorem dX12_isWrittenBy_11 : decode cX12_isWrittenBy 11 = .ok (.iload_n 1, 1) := by decide +kernel
theorem dX12_isWrittenBy_12 : decode cX12_isWrittenBy 12 = .ok (.iload_n 3, 1) := by decide +kernel
theorem dX12_isWrittenBy_13 : decode cX12_isWrittenBy 13 = .ok (.iload 4, 2) := by decide +kernel
theorem dX12_isWrittenBy_15 : decode cX12_isWrittenBy 15 = .ok (.invokevirtual 102, 3) := by decide +kernel
theorem dX12_isWrittenBy_18 : decode cX12_isWrittenBy 18 = .ok (.istore 6, 2) := by decide +kernel
theorem dX12_isWrittenBy_20 : decode cX12_isWrittenBy 20 = .ok (.aload_n 0, 1) := by decide +kernel
theorem dX12_isWrittenBy_21 : decode cX12_isWrittenBy 21 = .ok (.getfield 7, 3) := by decide +kernel
theorem dX12_isWrittenBy_24 : decode cX12_isWrittenBy 24 = .ok (.iload_n 1, 1) := by decide +kernel
theorem dX12_isWrittenBy_25 : decode cX12_isWrittenBy 25 = .ok (.iaload, 1) := by decide +kernel
theorem dX12_isWrittenBy_26 : decode cX12_isWrittenBy 26 = .ok (.tableswitch 108 1 4 #[30, 54, 70, 105], 30) := by decide +kernel
theorem dX12_isWrittenBy_56 : decode cX12_isWrittenBy 56 = .ok (.iload 5, 2) := by decide +kernel
theorem dX12_isWrittenBy_58 : decode cX12_isWrittenBy 58 = .ok (.ifCond .eq 8, 3) := by decide +kernel
theorem dX12_isWrittenBy_61 : decode cX12_isWrittenBy 61 = .ok (.iload 6, 2) := by decide +kernel
theorem dX12_isWrittenBy_63 : decode cX12_isWrittenBy 63 = .ok (.ifCond .ne 11, 3) := by decide +kernel
theorem dX12_isWrittenBy_66 : decode cX12_isWrittenBy 66 = .ok (.iload 4, 2) := by decide +kernel
theorem dX12_isWrittenBy_68 : decode cX12_isWrittenBy 68 = .ok (.iconst 1, 1) := by decide +kernel
theorem dX12_isWrittenBy_69 : decode cX12_isWrittenBy 69 = .ok (.iload_n 1, 1) := by decide +kernel
theorem dX12_isWrittenBy_70 : decode cX12_isWrittenBy 70 = .ok (.ishl, 1) := by decide +kernel
theorem dX12_isWrittenBy_71 : decode cX12_isWrittenBy 71 = .ok (.if_icmp .ne 7, 3) := by decide +kernel
theorem dX12_isWrittenBy_74 : decode cX12_isWrittenBy 74 = .ok (.iconst 1, 1) := by decide +kernel
theorem dX12_isWrittenBy_75 : decode cX12_isWrittenBy 75 = .ok (.goto 4, 3) := by decide +kernel
theorem dX12_isWrittenBy_78 : decode cX12_isWrittenBy 78 = .ok (.iconst 0, 1) := by decide +kernel
theorem dX12_isWrittenBy_79 : decode cX12_isWrittenBy 79 = .ok (.ireturn, 1) := by decide +kernel
theorem dX12_isWrittenBy_80 : decode cX12_isWrittenBy 80 = .ok (.iload 5, 2) := by decide +kernel
theorem dX12_isWrittenBy_82 : decode cX12_isWrittenBy 82 = .ok (.ifCond .ne 8, 3) := by decide +kernel
theorem dX12_isWrittenBy_85 : decode cX12_isWrittenBy 85 = .ok (.iload 6, 2) := by decide +kernel
theorem dX12_isWrittenBy_87 : decode cX12_isWrittenBy 87 = .ok (.ifCond .eq 7, 3) := by decide +kernel
theorem dX12_isWrittenBy_90 : decode cX12_isWrittenBy 90 = .ok (.iconst 1, 1) := by decide +kernel
theorem dX12_isWrittenBy_91 : decode cX12_isWrittenBy 91 = .ok (.goto 4, 3) := by decide +kernel
theorem dX12_isWrittenBy_94 : decode cX12_isWrittenBy 94 = .ok (.iconst 0, 1) := by decide +kernel
theorem dX12_isWrittenBy_95 : decode cX12_isWrittenBy 95 = .ok (.ireturn, 1) := by decide +kernel
theorem dX12_isWrittenBy_96 : decode cX12_isWrittenBy 96 = .ok (.iload 5, 2) := by decide +kernel
theorem dX12_isWrittenBy_98 : decode cX12_isWrittenBy 98 = .ok (.ifCond .eq 31, 3) := by decide +kernel
theorem dX12_isWrittenBy_101 : decode cX12_isWrittenBy 101 = .ok (.iload 6, 2) := by decide +kernel
theorem dX12_isWrittenBy_103 : decode cX12_isWrittenBy 103 = .ok (.ifCond .eq 26, 3) := by decide +kernel
theorem dX12_isWrittenBy_106 : decode cX12_isWrittenBy 106 = .ok (.iload 4, 2) := by decide +kernel
theorem dX12_isWrittenBy_108 : decode cX12_isWrittenBy 108 = .ok (.iconst 1, 1) := by decide +kernel
theorem dX12_isWrittenBy_109 : decode cX12_isWrittenBy 109 = .ok (.iload_n 1, 1) := by decide +kernel
theorem dX12_isWrittenBy_110 : decode cX12_isWrittenBy 110 = .ok (.ishl, 1) := by decide +kernel
theorem dX12_isWrittenBy_111 : decode cX12_isWrittenBy 111 = .ok (.iconst 1, 1) := by decide +kernel
theorem dX12_isWrittenBy_112 : decode cX12_isWrittenBy 112 = .ok (.iload_n 2, 1) := by decide +kernel
theorem dX12_isWrittenBy_113 : decode cX12_isWrittenBy 113 = .ok (.ishl, 1) := by decide +kernel
theorem dX12_isWrittenBy_114 : decode cX12_isWrittenBy 114 = .ok (.ior, 1) := by decide +kernel
theorem dX12_isWrittenBy_115 : decode cX12_isWrittenBy 115 = .ok (.iconst 1, 1) := by decide +kernel
theorem dX12_isWrittenBy_116 : decode cX12_isWrittenBy 116 = .ok (.iload_n 3, 1) := by decide +kernel
theorem dX12_isWrittenBy_117 : decode cX12_isWrittenBy 117 = .ok (.ishl, 1) := by decide +kernel
theorem dX12_isWrittenBy_118 : decode cX12_isWrittenBy 118 = .ok (.ior, 1) := by decide +kernel
theorem dX12_isWrittenBy_119 : decode cX12_isWrittenBy 119 = .ok (.iconst (-1), 1) := by decide +kernel
theorem dX12_isWrittenBy_120 : decode cX12_isWrittenBy 120 = .ok (.ixor, 1) := by decide +kernel
theorem dX12_isWrittenBy_121 : decode cX12_isWrittenBy 121 = .ok (.iand, 1) := by decide +kernel
theorem dX12_isWrittenBy_122 : decode cX12_isWrittenBy 122 = .ok (.ifCond .ne 7, 3) := by decide +kernel
theorem dX12_isWrittenBy_125 : decode cX12_isWrittenBy 125 = .ok (.iconst 1, 1) := by decide +kernel
theorem dX12_isWrittenBy_126 : decode cX12_isWrittenBy 126 = .ok (.goto 4, 3) := by decide +kernel
theorem dX12_isWrittenBy_129 : decode cX12_isWrittenBy 129 = .ok (.iconst 0, 1) := by decide +kernel
theorem dX12_isWrittenBy_130 : decode cX12_isWrittenBy 130 = .ok (.ireturn, 1) := by decide +kernel
theorem dX12_isWrittenBy_131 : decode cX12_isWrittenBy 131 = .ok (.iload 5, 2) := by decide +kernel
theorem dX12_isWrittenBy_133 : decode cX12_isWrittenBy 133 = .ok (.ireturn, 1) := by decide +kernel
theorem dX12_isWrittenBy_134 : decode cX12_isWrittenBy 134 = .ok (.iload 5, 2) := by decide +kernel
theorem dX12_isWrittenBy_136 : decode cX12_isWrittenBy 136 = .ok (.ifCond .eq 12, 3) := by decide +kernel
theorem dX12_isWrittenBy_139 : decode cX12_isWrittenBy 139 = .ok (.iload 6, 2) := by decide +kernel
theorem dX12_isWrittenBy_141 : decode cX12_isWrittenBy 141 = .ok (.ifCond .eq 7, 3) := by decide +kernel
theorem dX12_isWrittenBy_144 : decode cX12_isWrittenBy 144 = .ok (.iconst 1, 1) := by decide +kernel
theorem dX12_isWrittenBy_145 : decode cX12_isWrittenBy 145 = .ok (.goto 4, 3) := by decide +kernel
theorem dX12_isWrittenBy_148 : decode cX12_isWrittenBy 148 = .ok (.iconst 0, 1) := by decide +kernel
theorem dX12_isWrittenBy_149 : decode cX12_isWrittenBy 149 = .ok (.ireturn, 1) := by decide +kernel
theorem dX12_isWritten_0 : decode cX12_isWritten 0 = .ok (.aload_n 0, 1) := by decide +kernel
theorem dX12_isWritten_1 : decode cX12_isWritten 1 = .ok (.iload_n 1, 1) := by decide +kernel
theorem dX12_isWritten_2 : decode cX12_isWritten 2 = .ok (.aload_n 0, 1) := by decide +kernel
theorem dX12_isWritten_3 : decode cX12_isWritten 3 = .ok (.getfield 13, 3) := by decide +kernel
theorem dX12_isWritten_6 : decode cX12_isWritten 6 = .ok (.iconst 2, 1) := by decide +kernel
theorem dX12_isWritten_7 : decode cX12_isWritten 7 = .ok (.iload_n 1, 1) := by decide +kernel
theorem dX12_isWritten_8 : decode cX12_isWritten 8 = .ok (.imul, 1) := by decide +kernel
theorem dX12_isWritten_9 : decode cX12_isWritten 9 = .ok (.iaload, 1) := by decide +kernel
theorem dX12_isWritten_10 : decode cX12_isWritten 10 = .ok (.aload_n 0, 1) := by decide +kernel
theorem dX12_isWritten_11 : decode cX12_isWritten 11 = .ok (.getfield 13, 3) := by decide +kernel
theorem dX12_isWritten_14 : decode cX12_isWritten 14 = .ok (.iconst 2, 1) := by decide +kernel
theorem dX12_isWritten_15 : decode cX12_isWritten 15 = .ok (.iload_n 1, 1) := by decide +kernel
theorem dX12_isWritten_16 : decode cX12_isWritten 16 = .ok (.imul, 1) := by decide +kernel
theorem dX12_isWritten_17 : decode cX12_isWritten 17 = .ok (.iconst 1, 1) := by decide +kernel
theorem dX12_isWritten_18 : decode cX12_isWritten 18 = .ok (.iadd, 1) := by decide +kernel
theorem dX12_isWritten_19 : decode cX12_isWritten 19 = .ok (.iaload, 1) := by decide +kernel
theorem dX12_isWritten_20 : decode cX12_isWritten 20 = .ok (.iload_n 2, 1) := by decide +kernel
theorem dX12_isWritten_21 : decode cX12_isWritten 21 = .ok (.invokevirtual 105, 3) := by decide +kernel
theorem dX12_isWritten_24 : decode cX12_isWritten 24 = .ok (.ireturn, 1) := by decide +kernel
theorem dX12_companyOf_0 : decode cX12_companyOf 0 = .ok (.iconst 0, 1) := by decide +kernel
theorem dX12_companyOf_1 : decode cX12_companyOf 1 = .ok (.istore_n 2, 1) := by decide +kernel
theorem dX12_companyOf_2 : decode cX12_companyOf 2 = .ok (.iconst 0, 1) := by decide +kernel
theorem dX12_companyOf_3 : decode cX12_companyOf 3 = .ok (.istore_n 3, 1) := by decide +kernel
theorem dX12_companyOf_4 : decode cX12_companyOf 4 = .ok (.iload_n 3, 1) := by decide +kernel
theorem dX12_companyOf_5 : decode cX12_companyOf 5 = .ok (.aload_n 0, 1) := by decide +kernel
theorem dX12_companyOf_6 : decode cX12_companyOf 6 = .ok (.getfield 83, 3) := by decide +kernel
theorem dX12_companyOf_9 : decode cX12_companyOf 9 = .ok (.if_icmp .ge 34, 3) := by decide +kernel
theorem dX12_companyOf_12 : decode cX12_companyOf 12 = .ok (.iload_n 2, 1) := by decide +kernel
theorem dX12_companyOf_13 : decode cX12_companyOf 13 = .ok (.aload_n 0, 1) := by decide +kernel
theorem dX12_companyOf_14 : decode cX12_companyOf 14 = .ok (.getfield 16, 3) := by decide +kernel
theorem dX12_companyOf_17 : decode cX12_companyOf 17 = .ok (.iload_n 3, 1) := by decide +kernel
theorem dX12_companyOf_18 : decode cX12_companyOf 18 = .ok (.iaload, 1) := by decide +kernel
theorem dX12_companyOf_19 : decode cX12_companyOf 19 = .ok (.aload_n 0, 1) := by decide +kernel
theorem dX12_companyOf_20 : decode cX12_companyOf 20 = .ok (.getfield 16, 3) := by decide +kernel
theorem dX12_companyOf_23 : decode cX12_companyOf 23 = .ok (.iload_n 1, 1) := by decide +kernel
theorem dX12_companyOf_24 : decode cX12_companyOf 24 = .ok (.iaload, 1) := by decide +kernel
theorem dX12_companyOf_25 : decode cX12_companyOf 25 = .ok (.if_icmp .ne 9, 3) := by decide +kernel
theorem dX12_companyOf_28 : decode cX12_companyOf 28 = .ok (.iconst 1, 1) := by decide +kernel
theorem dX12_companyOf_29 : decode cX12_companyOf 29 = .ok (.iload_n 3, 1) := by decide +kernel
theorem dX12_companyOf_30 : decode cX12_companyOf 30 = .ok (.ishl, 1) := by decide +kernel
theorem dX12_companyOf_31 : decode cX12_companyOf 31 = .ok (.goto 4, 3) := by decide +kernel
theorem dX12_companyOf_34 : decode cX12_companyOf 34 = .ok (.iconst 0, 1) := by decide +kernel
theorem dX12_companyOf_35 : decode cX12_companyOf 35 = .ok (.ior, 1) := by decide +kernel
theorem dX12_companyOf_36 : decode cX12_companyOf 36 = .ok (.istore_n 2, 1) := by decide +kernel
theorem dX12_companyOf_37 : decode cX12_companyOf 37 = .ok (.iinc 3 1, 3) := by decide +kernel
theorem dX12_companyOf_40 : decode cX12_companyOf 40 = .ok (.goto (-36), 3) := by decide +kernel
theorem dX12_companyOf_43 : decode cX12_companyOf 43 = .ok (.iload_n 2, 1) := by decide +kernel
theorem dX12_companyOf_44 : decode cX12_companyOf 44 = .ok (.ireturn, 1) := by decide +kernel
theorem dX12_isWrittenNow_0 : decode cX12_isWrittenNow 0 = .ok (.aload_n 0, 1) := by decide +kernel
theorem dX12_isWrittenNow_1 : decode cX12_isWrittenNow 1 = .ok (.iload_n 1, 1) := by decide +kernel
theorem dX12_isWrittenNow_2 : decode cX12_isWrittenNow 2 = .ok (.aload_n 0, 1) := by decide +kernel
theorem dX12_isWrittenNow_3 : decode cX12_isWrittenNow 3 = .ok (.iload_n 1, 1) := by decide +kernel
theorem dX12_isWrittenNow_4 : decode cX12_isWrittenNow 4 = .ok (.invokevirtual 109, 3) := by decide +kernel
theorem dX12_isWrittenNow_7 : decode cX12_isWrittenNow 7 = .ok (.invokevirtual 112, 3) := by decide +kernel
theorem dX12_isWrittenNow_10 : decode cX12_isWrittenNow 10 = .ok (.ireturn, 1) := by decide +kernel
theorem dX12_lettersOf_0 : decode cX12_lettersOf 0 = .ok (.iconst 0, 1) := by decide +kernel
theorem dX12_lettersOf_1 : decode cX12_lettersOf 1 = .ok (.istore_n 2, 1) := by decide +kernel
theorem dX12_lettersOf_2 : decode cX12_lettersOf 2 = .ok (.iconst 0, 1) := by decide +kernel
theorem dX12_lettersOf_3 : decode cX12_lettersOf 3 = .ok (.istore_n 3, 1) := by decide +kernel
theorem dX12_lettersOf_4 : decode cX12_lettersOf 4 = .ok (.iload_n 3, 1) := by decide +kernel
theorem dX12_lettersOf_5 : decode cX12_lettersOf 5 = .ok (.iconst 2, 1) := by decide +kernel
theorem dX12_lettersOf_6 : decode cX12_lettersOf 6 = .ok (.aload_n 0, 1) := by decide +kernel
theorem dX12_lettersOf_7 : decode cX12_lettersOf 7 = .ok (.getfield 83, 3) := by decide +kernel
theorem dX12_lettersOf_10 : decode cX12_lettersOf 10 = .ok (.imul, 1) := by decide +kernel
theorem dX12_lettersOf_11 : decode cX12_lettersOf 11 = .ok (.if_icmp .ge 34, 3) := by decide +kernel
theorem dX12_lettersOf_14 : decode cX12_lettersOf 14 = .ok (.iload_n 2, 1) := by decide +kernel
theorem dX12_lettersOf_15 : decode cX12_lettersOf 15 = .ok (.aload_n 0, 1) := by decide +kernel
theorem dX12_lettersOf_16 : decode cX12_lettersOf 16 = .ok (.getfield 13, 3) := by decide +kernel
theorem dX12_lettersOf_19 : decode cX12_lettersOf 19 = .ok (.iload_n 3, 1) := by decide +kernel
theorem dX12_lettersOf_20 : decode cX12_lettersOf 20 = .ok (.iaload, 1) := by decide +kernel
theorem dX12_lettersOf_21 : decode cX12_lettersOf 21 = .ok (.iload_n 1, 1) := by decide +kernel
theorem dX12_lettersOf_22 : decode cX12_lettersOf 22 = .ok (.if_icmp .ne 14, 3) := by decide +kernel
theorem dX12_lettersOf_25 : decode cX12_lettersOf 25 = .ok (.iload_n 3, 1) := by decide +kernel
theorem dX12_lettersOf_26 : decode cX12_lettersOf 26 = .ok (.iconst 2, 1) := by decide +kernel
theorem dX12_lettersOf_27 : decode cX12_lettersOf 27 = .ok (.idiv, 1) := by decide +kernel
theorem dX12_lettersOf_28 : decode cX12_lettersOf 28 = .ok (.iload_n 1, 1) := by decide +kernel
theorem dX12_lettersOf_29 : decode cX12_lettersOf 29 = .ok (.if_icmp .eq 7, 3) := by decide +kernel
theorem dX12_lettersOf_32 : decode cX12_lettersOf 32 = .ok (.iconst 1, 1) := by decide +kernel
theorem dX12_lettersOf_33 : decode cX12_lettersOf 33 = .ok (.goto 4, 3) := by decide +kernel
theorem dX12_lettersOf_36 : decode cX12_lettersOf 36 = .ok (.iconst 0, 1) := by decide +kernel
theorem dX12_lettersOf_37 : decode cX12_lettersOf 37 = .ok (.iadd, 1) := by decide +kernel
theorem dX12_lettersOf_38 : decode cX12_lettersOf 38 = .ok (.istore_n 2, 1) := by decide +kernel
theorem dX12_lettersOf_39 : decode cX12_lettersOf 39 = .ok (.iinc 3 1, 3) := by decide +kernel
theorem dX12_lettersOf_42 : decode cX12_lettersOf 42 = .ok (.goto (-38), 3) := by decide +kernel
theorem dX12_lettersOf_45 : decode cX12_lettersOf 45 = .ok (.iload_n 2, 1) := by decide +kernel
theorem dX12_lettersOf_46 : decode cX12_lettersOf 46 = .ok (.ireturn, 1) := by decide +kernel
theorem dX12_wantsOf_0 : decode cX12_wantsOf 0 = .ok (.iconst 1, 1) := by decide +kernel
theorem dX12_wantsOf_1 : decode cX12_wantsOf 1 = .ok (.aload_n 0, 1) := by decide +kernel
theorem dX12_wantsOf_2 : decode cX12_wantsOf 2 = .ok (.getfield 83, 3) := by decide +kernel
theorem dX12_wantsOf_5 : decode cX12_wantsOf 5 = .ok (.ishl, 1) := by decide +kernel
theorem dX12_wantsOf_6 : decode cX12_wantsOf 6 = .ok (.iconst 1, 1) := by decide +kernel
theorem dX12_wantsOf_7 : decode cX12_wantsOf 7 = .ok (.isub, 1) := by decide +kernel
theorem dX12_wantsOf_8 : decode cX12_wantsOf 8 = .ok (.iconst 1, 1) := by decide +kernel
theorem dX12_wantsOf_9 : decode cX12_wantsOf 9 = .ok (.iload_n 1, 1) := by decide +kernel
theorem dX12_wantsOf_10 : decode cX12_wantsOf 10 = .ok (.ishl, 1) := by decide +kernel
theorem dX12_wantsOf_11 : decode cX12_wantsOf 11 = .ok (.iconst (-1), 1) := by decide +kernel
theorem dX12_wantsOf_12 : decode cX12_wantsOf 12 = .ok (.ixor, 1) := by decide +kernel
theorem dX12_wantsOf_13 : decode cX12_wantsOf 13 = .ok (.iand, 1) := by decide +kernel
theorem dX12_wantsOf_14 : decode cX12_wantsOf 14 = .ok (.istore_n 2, 1) := by decide +kernel
theorem dX12_wantsOf_15 : decode cX12_wantsOf 15 = .ok (.iconst 0, 1) := by decide +kernel
theorem dX12_wantsOf_16 : decode cX12_wantsOf 16 = .ok (.istore_n 3, 1) := by decide +kernel
theorem dX12_wantsOf_17 : decode cX12_wantsOf 17 = .ok (.iload_n 3, 1) := by decide +kernel
theorem dX12_wantsOf_18 : decode cX12_wantsOf 18 = .ok (.iconst 1, 1) := by decide +kernel
theorem dX12_wantsOf_19 : decode cX12_wantsOf 19 = .ok (.aload_n 0, 1) := by decide +kernel
theorem dX12_wantsOf_20 : decode cX12_wantsOf 20 = .ok (.getfield 83, 3) := by decide +kernel
theorem dX12_wantsOf_23 : decode cX12_wantsOf 23 = .ok (.ishl, 1) := by decide +kernel
theorem dX12_wantsOf_24 : decode cX12_wantsOf 24 = .ok (.if_icmp .ge 34, 3) := by decide +kernel
theorem dX12_wantsOf_27 : decode cX12_wantsOf 27 = .ok (.iload_n 3, 1) := by decide +kernel
theorem dX12_wantsOf_28 : decode cX12_wantsOf 28 = .ok (.iload_n 1, 1) := by decide +kernel
theorem dX12_wantsOf_29 : decode cX12_wantsOf 29 = .ok (.invokestatic 98, 3) := by decide +kernel
theorem dX12_wantsOf_32 : decode cX12_wantsOf 32 = .ok (.ifCond .eq 18, 3) := by decide +kernel
theorem dX12_wantsOf_35 : decode cX12_wantsOf 35 = .ok (.aload_n 0, 1) := by decide +kernel
theorem dX12_wantsOf_36 : decode cX12_wantsOf 36 = .ok (.iload_n 1, 1) := by decide +kernel
theorem dX12_wantsOf_37 : decode cX12_wantsOf 37 = .ok (.iload_n 3, 1) := by decide +kernel
theorem dX12_wantsOf_38 : decode cX12_wantsOf 38 = .ok (.invokevirtual 112, 3) := by decide +kernel
theorem dX12_wantsOf_41 : decode cX12_wantsOf 41 = .ok (.ifCond .eq 9, 3) := by decide +kernel
theorem dX12_wantsOf_44 : decode cX12_wantsOf 44 = .ok (.iload_n 2, 1) := by decide +kernel
theorem dX12_wantsOf_45 : decode cX12_wantsOf 45 = .ok (.iload_n 3, 1) := by decide +kernel
theorem dX12_wantsOf_46 : decode cX12_wantsOf 46 = .ok (.iand, 1) := by decide +kernel
theorem dX12_wantsOf_47 : decode cX12_wantsOf 47 = .ok (.goto 4, 3) := by decide +kernel
theorem dX12_wantsOf_50 : decode cX12_wantsOf 50 = .ok (.iload_n 2, 1) := by decide +kernel
theorem dX12_wantsOf_51 : decode cX12_wantsOf 51 = .ok (.istore_n 2, 1) := by decide +kernel
theorem dX12_wantsOf_52 : decode cX12_wantsOf 52 = .ok (.iinc 3 1, 3) := by decide +kernel
theorem dX12_wantsOf_55 : decode cX12_wantsOf 55 = .ok (.goto (-38), 3) := by decide +kernel
theorem dX12_wantsOf_58 : decode cX12_wantsOf 58 = .ok (.iload_n 2, 1) := by decide +kernel
theorem dX12_wantsOf_59 : decode cX12_wantsOf 59 = .ok (.ireturn, 1) := by decide +kernel
theorem dX12_oneNow_0 : decode cX12_oneNow 0 = .ok (.iload_n 2, 1) := by decide +kernel
theorem dX12_oneNow_1 : decode cX12_oneNow 1 = .ok (.tableswitch 107 0 7 #[47, 54, 54, 67, 74, 81, 95, 101], 47) := by decide +kernel
theorem dX12_oneNow_48 : decode cX12_oneNow 48 = .ok (.aload_n 0, 1) := by decide +kernel
theorem dX12_oneNow_49 : decode cX12_oneNow 49 = .ok (.getfield 7, 3) := by decide +kernel
theorem dX12_oneNow_52 : decode cX12_oneNow 52 = .ok (.iload_n 1, 1) := by decide +kernel
theorem dX12_oneNow_53 : decode cX12_oneNow 53 = .ok (.iaload, 1) := by decide +kernel
theorem dX12_oneNow_54 : decode cX12_oneNow 54 = .ok (.ireturn, 1) := by decide +kernel
theorem dX12_oneNow_55 : decode cX12_oneNow 55 = .ok (.aload_n 0, 1) := by decide +kernel
theorem dX12_oneNow_56 : decode cX12_oneNow 56 = .ok (.getfield 13, 3) := by decide +kernel
theorem dX12_oneNow_59 : decode cX12_oneNow 59 = .ok (.iconst 2, 1) := by decide +kernel
theorem dX12_oneNow_60 : decode cX12_oneNow 60 = .ok (.iload_n 1, 1) := by decide +kernel
theorem dX12_oneNow_61 : decode cX12_oneNow 61 = .ok (.imul, 1) := by decide +kernel
theorem dX12_oneNow_62 : decode cX12_oneNow 62 = .ok (.iload_n 2, 1) := by decide +kernel
theorem dX12_oneNow_63 : decode cX12_oneNow 63 = .ok (.iadd, 1) := by decide +kernel
theorem dX12_oneNow_64 : decode cX12_oneNow 64 = .ok (.iconst 1, 1) := by decide +kernel
theorem dX12_oneNow_65 : decode cX12_oneNow 65 = .ok (.isub, 1) := by decide +kernel
theorem dX12_oneNow_66 : decode cX12_oneNow 66 = .ok (.iaload, 1) := by decide +kernel
theorem dX12_oneNow_67 : decode cX12_oneNow 67 = .ok (.ireturn, 1) := by decide +kernel
theorem dX12_oneNow_68 : decode cX12_oneNow 68 = .ok (.aload_n 0, 1) := by decide +kernel
theorem dX12_oneNow_69 : decode cX12_oneNow 69 = .ok (.getfield 16, 3) := by decide +kernel
theorem dX12_oneNow_72 : decode cX12_oneNow 72 = .ok (.iload_n 1, 1) := by decide +kernel
theorem dX12_oneNow_73 : decode cX12_oneNow 73 = .ok (.iaload, 1) := by decide +kernel
theorem dX12_oneNow_74 : decode cX12_oneNow 74 = .ok (.ireturn, 1) := by decide +kernel
theorem dX12_oneNow_75 : decode cX12_oneNow 75 = .ok (.aload_n 0, 1) := by decide +kernel
theorem dX12_oneNow_76 : decode cX12_oneNow 76 = .ok (.getfield 19, 3) := by decide +kernel
theorem dX12_oneNow_79 : decode cX12_oneNow 79 = .ok (.iload_n 1, 1) := by decide +kernel
theorem dX12_oneNow_80 : decode cX12_oneNow 80 = .ok (.iaload, 1) := by decide +kernel
theorem dX12_oneNow_81 : decode cX12_oneNow 81 = .ok (.ireturn, 1) := by decide +kernel
theorem dX12_oneNow_82 : decode cX12_oneNow 82 = .ok (.aload_n 0, 1) := by decide +kernel
theorem dX12_oneNow_83 : decode cX12_oneNow 83 = .ok (.iload_n 1, 1) := by decide +kernel
theorem dX12_oneNow_84 : decode cX12_oneNow 84 = .ok (.invokevirtual 115, 3) := by decide +kernel
theorem dX12_oneNow_87 : decode cX12_oneNow 87 = .ok (.ifCond .eq 7, 3) := by decide +kernel
theorem dX12_oneNow_90 : decode cX12_oneNow 90 = .ok (.iconst 1, 1) := by decide +kernel
theorem dX12_oneNow_91 : decode cX12_oneNow 91 = .ok (.goto 4, 3) := by decide +kernel
theorem dX12_oneNow_94 : decode cX12_oneNow 94 = .ok (.iconst 0, 1) := by decide +kernel
theorem dX12_oneNow_95 : decode cX12_oneNow 95 = .ok (.ireturn, 1) := by decide +kernel
theorem dX12_oneNow_96 : decode cX12_oneNow 96 = .ok (.aload_n 0, 1) := by decide +kernel
theorem dX12_oneNow_97 : decode cX12_oneNow 97 = .ok (.iload_n 1, 1) := by decide +kernel
theorem dX12_oneNow_98 : decode cX12_oneNow 98 = .ok (.invokevirtual 109, 3) := by decide +kernel
theorem dX12_oneNow_101 : decode cX12_oneNow 101 = .ok (.ireturn, 1) := by decide +kernel
theorem dX12_oneNow_102 : decode cX12_oneNow 102 = .ok (.aload_n 0, 1) := by decide +kernel
theorem dX12_oneNow_103 : decode cX12_oneNow 103 = .ok (.iload_n 1, 1) := by decide +kernel
theorem dX12_oneNow_104 : decode cX12_oneNow 104 = .ok (.invokevirtual 118, 3) := by decide +kernel
theorem dX12_oneNow_107 : decode cX12_oneNow 107 = .ok (.ireturn, 1) := by decide +kernel
theorem dX12_oneNow_108 : decode cX12_oneNow 108 = .ok (.aload_n 0, 1) := by decide +kernel
theorem dX12_oneNow_109 : decode cX12_oneNow 109 = .ok (.iload_n 1, 1) := by decide +kernel
theorem dX12_oneNow_110 : decode cX12_oneNow 110 = .ok (.invokevirtual 121, 3) := by decide +kernel
theorem dX12_oneNow_113 : decode cX12_oneNow 113 = .ok (.ireturn, 1) := by decide +kernel
theorem dX12_about_0 : decode cX12_about 0 = .ok (.aload_n 0, 1) := by decide +kernel
theorem dX12_about_1 : decode cX12_about 1 = .ok (.iload_n 1, 1) := by decide +kernel
theorem dX12_about_2 : decode cX12_about 2 = .ok (.invokevirtual 124, 3) := by decide +kernel
theorem dX12_about_5 : decode cX12_about 5 = .ok (.ifCond .ne 8, 3) := by decide +kernel
theorem dX12_about_8 : decode cX12_about 8 = .ok (.bipush (-101), 2) := by decide +kernel
theorem dX12_about_10 : decode cX12_about 10 = .ok (.goto 24, 3) := by decide +kernel
theorem dX12_about_13 : decode cX12_about 13 = .ok (.iload_n 2, 1) := by decide +kernel
theorem dX12_about_14 : decode cX12_about 14 = .ok (.iconst 0, 1) := by decide +kernel
theorem dX12_about_15 : decode cX12_about 15 = .ok (.bipush 8, 2) := by decide +kernel
theorem dX12_about_17 : decode cX12_about 17 = .ok (.invokestatic 59, 3) := by decide +kernel
theorem dX12_about_20 : decode cX12_about 20 = .ok (.ifCond .eq 12, 3) := by decide +kernel
theorem dX12_about_23 : decode cX12_about 23 = .ok (.aload_n 0, 1) := by decide +kernel
theorem dX12_about_24 : decode cX12_about 24 = .ok (.iload_n 1, 1) := by decide +kernel
theorem dX12_about_25 : decode cX12_about 25 = .ok (.iload_n 2, 1) := by decide +kernel
theorem dX12_about_26 : decode cX12_about 26 = .ok (.invokevirtual 127, 3) := by decide +kernel
theorem dX12_about_29 : decode cX12_about 29 = .ok (.goto 5, 3) := by decide +kernel
theorem dX12_about_32 : decode cX12_about 32 = .ok (.bipush (-102), 2) := by decide +kernel
theorem dX12_about_34 : decode cX12_about 34 = .ok (.ireturn, 1) := by decide +kernel
theorem dX12_as_0 : decode cX12_as 0 = .ok (.aload_n 0, 1) := by decide +kernel
theorem dX12_as_1 : decode cX12_as 1 = .ok (.iload_n 1, 1) := by decide +kernel
theorem dX12_as_2 : decode cX12_as 2 = .ok (.invokevirtual 124, 3) := by decide +kernel
theorem dX12_as_5 : decode cX12_as 5 = .ok (.ifCond .ne 6, 3) := by decide +kernel
theorem dX12_as_8 : decode cX12_as 8 = .ok (.bipush (-101), 2) := by decide +kernel
theorem dX12_as_10 : decode cX12_as 10 = .ok (.ireturn, 1) := by decide +kernel
theorem dX12_as_11 : decode cX12_as 11 = .ok (.iload_n 2, 1) := by decide +kernel
theorem dX12_as_12 : decode cX12_as 12 = .ok (.iconst 0, 1) := by decide +kernel
theorem dX12_as_13 : decode cX12_as 13 = .ok (.iconst 4, 1) := by decide +kernel
theorem dX12_as_14 : decode cX12_as 14 = .ok (.invokestatic 59, 3) := by decide +kernel
theorem dX12_as_17 : decode cX12_as 17 = .ok (.ifCond .ne 6, 3) := by decide +kernel
theorem dX12_as_20 : decode cX12_as 20 = .ok (.bipush (-102), 2) := by decide +kernel
theorem dX12_as_22 : decode cX12_as 22 = .ok (.ireturn, 1) := by decide +kernel
theorem dX12_as_23 : decode cX12_as 23 = .ok (.aload_n 0, 1) := by decide +kernel
theorem dX12_as_24 : decode cX12_as 24 = .ok (.getfield 7, 3) := by decide +kernel
theorem dX12_as_27 : decode cX12_as 27 = .ok (.iload_n 1, 1) := by decide +kernel
theorem dX12_as_28 : decode cX12_as 28 = .ok (.iaload, 1) := by decide +kernel
theorem dX12_as_29 : decode cX12_as 29 = .ok (.istore_n 3, 1) := by decide +kernel
theorem dX12_as_30 : decode cX12_as 30 = .ok (.iload_n 2, 1) := by decide +kernel
theorem dX12_as_31 : decode cX12_as 31 = .ok (.ifCond .eq 18, 3) := by decide +kernel
theorem dX12_as_34 : decode cX12_as 34 = .ok (.iload_n 3, 1) := by decide +kernel
theorem dX12_as_35 : decode cX12_as 35 = .ok (.iload_n 2, 1) := by decide +kernel
theorem dX12_as_36 : decode cX12_as 36 = .ok (.if_icmp .eq 13, 3) := by decide +kernel
theorem dX12_as_39 : decode cX12_as 39 = .ok (.iload_n 2, 1) := by decide +kernel
theorem dX12_as_40 : decode cX12_as 40 = .ok (.iconst 2, 1) := by decide +kernel
theorem dX12_as_41 : decode cX12_as 41 = .ok (.if_icmp .ne 12, 3) := by decide +kernel
theorem dX12_as_44 : decode cX12_as 44 = .ok (.iload_n 3, 1) := by decide +kernel
theorem dX12_as_45 : decode cX12_as 45 = .ok (.iconst 4, 1) := by decide +kernel
theorem dX12_as_46 : decode cX12_as 46 = .ok (.if_icmp .ne 7, 3) := by decide +kernel
theorem dX12_as_49 : decode cX12_as 49 = .ok (.iload_n 1, 1) := by decide +kernel
theorem dX12_as_50 : decode cX12_as 50 = .ok (.goto 4, 3) := by decide +kernel
theorem dX12_as_53 : decode cX12_as 53 = .ok (.iconst (-1), 1) := by decide +kernel
theorem dX12_as_54 : decode cX12_as 54 = .ok (.ireturn, 1) := by decide +kernel
theorem dX12_go_0 : decode cX12_go 0 = .ok (.aload_n 0, 1) := by decide +kernel
theorem dX12_go_1 : decode cX12_go 1 = .ok (.iload_n 1, 1) := by decide +kernel
theorem dX12_go_2 : decode cX12_go 2 = .ok (.invokevirtual 124, 3) := by decide +kernel
theorem dX12_go_5 : decode cX12_go 5 = .ok (.ifCond .ne 6, 3) := by decide +kernel
theorem dX12_go_8 : decode cX12_go 8 = .ok (.bipush (-101), 2) := by decide +kernel
theorem dX12_go_10 : decode cX12_go 10 = .ok (.ireturn, 1) := by decide +kernel
theorem dX12_go_11 : decode cX12_go 11 = .ok (.iload_n 2, 1) := by decide +kernel
theorem dX12_go_12 : decode cX12_go 12 = .ok (.iconst 0, 1) := by decide +kernel
theorem dX12_go_13 : decode cX12_go 13 = .ok (.iconst 3, 1) := by decide +kernel
theorem dX12_go_14 : decode cX12_go 14 = .ok (.invokestatic 59, 3) := by decide +kernel
theorem dX12_go_17 : decode cX12_go 17 = .ok (.ifCond .ne 6, 3) := by decide +kernel
theorem dX12_go_20 : decode cX12_go 20 = .ok (.bipush (-102), 2) := by decide +kernel
theorem dX12_go_22 : decode cX12_go 22 = .ok (.ireturn, 1) := by decide +kernel
theorem dX12_go_23 : decode cX12_go 23 = .ok (.aload_n 0, 1) := by decide +kernel
theorem dX12_go_24 : decode cX12_go 24 = .ok (.getfield 16, 3) := by decide +kernel
theorem dX12_go_27 : decode cX12_go 27 = .ok (.iload_n 1, 1) := by decide +kernel
theorem dX12_go_28 : decode cX12_go 28 = .ok (.iaload, 1) := by decide +kernel
theorem dX12_go_29 : decode cX12_go 29 = .ok (.istore_n 3, 1) := by decide +kernel
theorem dX12_go_30 : decode cX12_go 30 = .ok (.aload_n 0, 1) := by decide +kernel
theorem dX12_go_31 : decode cX12_go 31 = .ok (.getfield 16, 3) := by decide +kernel
theorem dX12_go_34 : decode cX12_go 34 = .ok (.iload_n 1, 1) := by decide +kernel
theorem dX12_go_35 : decode cX12_go 35 = .ok (.iload_n 2, 1) := by decide +kernel
theorem dX12_go_36 : decode cX12_go 36 = .ok (.iastore, 1) := by decide +kernel
theorem dX12_go_37 : decode cX12_go 37 = .ok (.aload_n 0, 1) := by decide +kernel
theorem dX12_go_38 : decode cX12_go 38 = .ok (.dup, 1) := by decide +kernel
theorem dX12_go_39 : decode cX12_go 39 = .ok (.getfield 89, 3) := by decide +kernel
theorem dX12_go_42 : decode cX12_go 42 = .ok (.iconst 1, 1) := by decide +kernel
theorem dX12_go_43 : decode cX12_go 43 = .ok (.iadd, 1) := by decide +kernel
theorem dX12_go_44 : decode cX12_go 44 = .ok (.putfield 89, 3) := by decide +kernel
theorem dX12_go_47 : decode cX12_go 47 = .ok (.iload_n 3, 1) := by decide +kernel
theorem dX12_go_48 : decode cX12_go 48 = .ok (.ireturn, 1) := by decide +kernel
theorem dX12_sell_0 : decode cX12_sell 0 = .ok (.aload_n 0, 1) := by decide +kernel
theorem dX12_sell_1 : decode cX12_sell 1 = .ok (.iload_n 1, 1) := by decide +kernel
theorem dX12_sell_2 : decode cX12_sell 2 = .ok (.invokevirtual 124, 3) := by decide +kernel
theorem dX12_sell_5 : decode cX12_sell 5 = .ok (.ifCond .eq 11, 3) := by decide +kernel
theorem dX12_sell_8 : decode cX12_sell 8 = .ok (.aload_n 0, 1) := by decide +kernel
theorem dX12_sell_9 : decode cX12_sell 9 = .ok (.iload_n 3, 1) := by decide +kernel
theorem dX12_sell_10 : decode cX12_sell 10 = .ok (.invokevirtual 124, 3) := by decide +kernel
theorem dX12_sell_13 : decode cX12_sell 13 = .ok (.ifCond .ne 6, 3) := by decide +kernel
theorem dX12_sell_16 : decode cX12_sell 16 = .ok (.bipush (-101), 2) := by decide +kernel
theorem dX12_sell_18 : decode cX12_sell 18 = .ok (.ireturn, 1) := by decide +kernel
theorem dX12_sell_19 : decode cX12_sell 19 = .ok (.iload_n 2, 1) := by decide +kernel
theorem dX12_sell_20 : decode cX12_sell 20 = .ok (.iconst 0, 1) := by decide +kernel
theorem dX12_sell_21 : decode cX12_sell 21 = .ok (.iconst 1, 1) := by decide +kernel
theorem dX12_sell_22 : decode cX12_sell 22 = .ok (.invokestatic 59, 3) := by decide +kernel
theorem dX12_sell_25 : decode cX12_sell 25 = .ok (.ifCond .ne 6, 3) := by decide +kernel
theorem dX12_sell_28 : decode cX12_sell 28 = .ok (.bipush (-102), 2) := by decide +kernel
theorem dX12_sell_30 : decode cX12_sell 30 = .ok (.ireturn, 1) := by decide +kernel
theorem dX12_sell_31 : decode cX12_sell 31 = .ok (.aload_n 0, 1) := by decide +kernel
theorem dX12_sell_32 : decode cX12_sell 32 = .ok (.getfield 13, 3) := by decide +kernel
theorem dX12_sell_35 : decode cX12_sell 35 = .ok (.iconst 2, 1) := by decide +kernel
theorem dX12_sell_36 : decode cX12_sell 36 = .ok (.iload_n 1, 1) := by decide +kernel
theorem dX12_sell_37 : decode cX12_sell 37 = .ok (.imul, 1) := by decide +kernel
theorem dX12_sell_38 : decode cX12_sell 38 = .ok (.iload_n 2, 1) := by decide +kernel
theorem dX12_sell_39 : decode cX12_sell 39 = .ok (.iadd, 1) := by decide +kernel
theorem dX12_sell_40 : decode cX12_sell 40 = .ok (.iaload, 1) := by decide +kernel
theorem dX12_sell_41 : decode cX12_sell 41 = .ok (.istore 4, 2) := by decide +kernel
theorem dX12_sell_43 : decode cX12_sell 43 = .ok (.aload_n 0, 1) := by decide +kernel
theorem dX12_sell_44 : decode cX12_sell 44 = .ok (.getfield 13, 3) := by decide +kernel
theorem dX12_sell_47 : decode cX12_sell 47 = .ok (.iconst 2, 1) := by decide +kernel
theorem dX12_sell_48 : decode cX12_sell 48 = .ok (.iload_n 1, 1) := by decide +kernel
theorem dX12_sell_49 : decode cX12_sell 49 = .ok (.imul, 1) := by decide +kernel
theorem dX12_sell_50 : decode cX12_sell 50 = .ok (.iload_n 2, 1) := by decide +kernel
theorem dX12_sell_51 : decode cX12_sell 51 = .ok (.iadd, 1) := by decide +kernel
theorem dX12_sell_52 : decode cX12_sell 52 = .ok (.iload_n 3, 1) := by decide +kernel
theorem dX12_sell_53 : decode cX12_sell 53 = .ok (.iastore, 1) := by decide +kernel
theorem dX12_sell_54 : decode cX12_sell 54 = .ok (.aload_n 0, 1) := by decide +kernel
theorem dX12_sell_55 : decode cX12_sell 55 = .ok (.dup, 1) := by decide +kernel
theorem dX12_sell_56 : decode cX12_sell 56 = .ok (.getfield 92, 3) := by decide +kernel
theorem dX12_sell_59 : decode cX12_sell 59 = .ok (.iconst 1, 1) := by decide +kernel
theorem dX12_sell_60 : decode cX12_sell 60 = .ok (.iadd, 1) := by decide +kernel
theorem dX12_sell_61 : decode cX12_sell 61 = .ok (.putfield 92, 3) := by decide +kernel
theorem dX12_sell_64 : decode cX12_sell 64 = .ok (.iload 4, 2) := by decide +kernel
theorem dX12_sell_66 : decode cX12_sell 66 = .ok (.ireturn, 1) := by decide +kernel
theorem dX12_with_0 : decode cX12_with 0 = .ok (.iload_n 2, 1) := by decide +kernel
theorem dX12_with_1 : decode cX12_with 1 = .ok (.ifCond .eq 11, 3) := by decide +kernel
theorem dX12_with_4 : decode cX12_with 4 = .ok (.iload_n 0, 1) := by decide +kernel
theorem dX12_with_5 : decode cX12_with 5 = .ok (.iconst 1, 1) := by decide +kernel
theorem dX12_with_6 : decode cX12_with 6 = .ok (.iload_n 1, 1) := by decide +kernel
theorem dX12_with_7 : decode cX12_with 7 = .ok (.ishl, 1) := by decide +kernel
theorem dX12_with_8 : decode cX12_with 8 = .ok (.ior, 1) := by decide +kernel
theorem dX12_with_9 : decode cX12_with 9 = .ok (.goto 10, 3) := by decide +kernel
theorem dX12_with_12 : decode cX12_with 12 = .ok (.iload_n 0, 1) := by decide +kernel
theorem dX12_with_13 : decode cX12_with 13 = .ok (.iconst 1, 1) := by decide +kernel
theorem dX12_with_14 : decode cX12_with 14 = .ok (.iload_n 1, 1) := by decide +kernel
theorem dX12_with_15 : decode cX12_with 15 = .ok (.ishl, 1) := by decide +kernel
theorem dX12_with_16 : decode cX12_with 16 = .ok (.iconst (-1), 1) := by decide +kernel
theorem dX12_with_17 : decode cX12_with 17 = .ok (.ixor, 1) := by decide +kernel
theorem dX12_with_18 : decode cX12_with 18 = .ok (.iand, 1) := by decide +kernel
theorem dX12_with_19 : decode cX12_with 19 = .ok (.ireturn, 1) := by decide +kernel
theorem dX12_quarrel_0 : decode cX12_quarrel 0 = .ok (.aload_n 0, 1) := by decide +kernel
theorem dX12_quarrel_1 : decode cX12_quarrel 1 = .ok (.iload_n 1, 1) := by decide +kernel
theorem dX12_quarrel_2 : decode cX12_quarrel 2 = .ok (.invokevirtual 124, 3) := by decide +kernel
theorem dX12_quarrel_5 : decode cX12_quarrel 5 = .ok (.ifCond .eq 16, 3) := by decide +kernel
theorem dX12_quarrel_8 : decode cX12_quarrel 8 = .ok (.aload_n 0, 1) := by decide +kernel
theorem dX12_quarrel_9 : decode cX12_quarrel 9 = .ok (.iload_n 2, 1) := by decide +kernel
theorem dX12_quarrel_10 : decode cX12_quarrel 10 = .ok (.invokevirtual 124, 3) := by decide +kernel
theorem dX12_quarrel_13 : decode cX12_quarrel 13 = .ok (.ifCond .eq 8, 3) := by decide +kernel
theorem dX12_quarrel_16 : decode cX12_quarrel 16 = .ok (.iload_n 1, 1) := by decide +kernel
theorem dX12_quarrel_17 : decode cX12_quarrel 17 = .ok (.iload_n 2, 1) := by decide +kernel
theorem dX12_quarrel_18 : decode cX12_quarrel 18 = .ok (.if_icmp .ne 6, 3) := by decide +kernel
theorem dX12_quarrel_21 : decode cX12_quarrel 21 = .ok (.bipush (-101), 2) := by decide +kernel
theorem dX12_quarrel_23 : decode cX12_quarrel 23 = .ok (.ireturn, 1) := by decide +kernel
theorem dX12_quarrel_24 : decode cX12_quarrel 24 = .ok (.aload_n 0, 1) := by decide +kernel
theorem dX12_quarrel_25 : decode cX12_quarrel 25 = .ok (.getfield 19, 3) := by decide +kernel
theorem dX12_quarrel_28 : decode cX12_quarrel 28 = .ok (.iload_n 1, 1) := by decide +kernel
theorem dX12_quarrel_29 : decode cX12_quarrel 29 = .ok (.iaload, 1) := by decide +kernel
theorem dX12_quarrel_30 : decode cX12_quarrel 30 = .ok (.iload_n 2, 1) := by decide +kernel
theorem dX12_quarrel_31 : decode cX12_quarrel 31 = .ok (.ishr, 1) := by decide +kernel
theorem dX12_quarrel_32 : decode cX12_quarrel 32 = .ok (.iconst 1, 1) := by decide +kernel
theorem dX12_quarrel_33 : decode cX12_quarrel 33 = .ok (.iand, 1) := by decide +kernel
theorem dX12_quarrel_34 : decode cX12_quarrel 34 = .ok (.istore 4, 2) := by decide +kernel
theorem dX12_quarrel_36 : decode cX12_quarrel 36 = .ok (.aload_n 0, 1) := by decide +kernel
theorem dX12_quarrel_37 : decode cX12_quarrel 37 = .ok (.getfield 19, 3) := by decide +kernel
theorem dX12_quarrel_40 : decode cX12_quarrel 40 = .ok (.iload_n 1, 1) := by decide +kernel
theorem dX12_quarrel_41 : decode cX12_quarrel 41 = .ok (.aload_n 0, 1) := by decide +kernel
theorem dX12_quarrel_42 : decode cX12_quarrel 42 = .ok (.getfield 19, 3) := by decide +kernel
theorem dX12_quarrel_45 : decode cX12_quarrel 45 = .ok (.iload_n 1, 1) := by decide +kernel
theorem dX12_quarrel_46 : decode cX12_quarrel 46 = .ok (.iaload, 1) := by decide +kernel
theorem dX12_quarrel_47 : decode cX12_quarrel 47 = .ok (.iload_n 2, 1) := by decide +kernel
theorem dX12_quarrel_48 : decode cX12_quarrel 48 = .ok (.iload_n 3, 1) := by decide +kernel
theorem dX12_quarrel_49 : decode cX12_quarrel 49 = .ok (.invokestatic 131, 3) := by decide +kernel
theorem dX12_quarrel_52 : decode cX12_quarrel 52 = .ok (.iastore, 1) := by decide +kernel
theorem dX12_quarrel_53 : decode cX12_quarrel 53 = .ok (.aload_n 0, 1) := by decide +kernel
theorem dX12_quarrel_54 : decode cX12_quarrel 54 = .ok (.getfield 19, 3) := by decide +kernel
theorem dX12_quarrel_57 : decode cX12_quarrel 57 = .ok (.iload_n 2, 1) := by decide +kernel
theorem dX12_quarrel_58 : decode cX12_quarrel 58 = .ok (.aload_n 0, 1) := by decide +kernel
theorem dX12_quarrel_59 : decode cX12_quarrel 59 = .ok (.getfield 19, 3) := by decide +kernel
theorem dX12_quarrel_62 : decode cX12_quarrel 62 = .ok (.iload_n 2, 1) := by decide +kernel
theorem dX12_quarrel_63 : decode cX12_quarrel 63 = .ok (.iaload, 1) := by decide +kernel
theorem dX12_quarrel_64 : decode cX12_quarrel 64 = .ok (.iload_n 1, 1) := by decide +kernel
theorem dX12_quarrel_65 : decode cX12_quarrel 65 = .ok (.iload_n 3, 1) := by decide +kernel
theorem dX12_quarrel_66 : decode cX12_quarrel 66 = .ok (.invokestatic 131, 3) := by decide +kernel
theorem dX12_quarrel_69 : decode cX12_quarrel 69 = .ok (.iastore, 1) := by decide +kernel
theorem dX12_quarrel_70 : decode cX12_quarrel 70 = .ok (.iload 4, 2) := by decide +kernel
theorem dX12_quarrel_72 : decode cX12_quarrel 72 = .ok (.ireturn, 1) := by decide +kernel
theorem dX12_written_0 : decode cX12_written 0 = .ok (.aload_n 0, 1) := by decide +kernel
theorem dX12_written_1 : decode cX12_written 1 = .ok (.iload_n 1, 1) := by decide +kernel
theorem dX12_written_2 : decode cX12_written 2 = .ok (.invokevirtual 124, 3) := by decide +kernel
theorem dX12_written_5 : decode cX12_written 5 = .ok (.ifCond .ne 6, 3) := by decide +kernel
theorem dX12_written_8 : decode cX12_written 8 = .ok (.bipush (-101), 2) := by decide +kernel
theorem dX12_written_10 : decode cX12_written 10 = .ok (.ireturn, 1) := by decide +kernel
theorem dX12_written_11 : decode cX12_written 11 = .ok (.aload_n 0, 1) := by decide +kernel
theorem dX12_written_12 : decode cX12_written 12 = .ok (.iload_n 2, 1) := by decide +kernel
theorem dX12_written_13 : decode cX12_written 13 = .ok (.invokevirtual 135, 3) := by decide +kernel
theorem dX12_written_16 : decode cX12_written 16 = .ok (.ifCond .eq 11, 3) := by decide +kernel
theorem dX12_written_19 : decode cX12_written 19 = .ok (.iload_n 2, 1) := by decide +kernel
theorem dX12_written_20 : decode cX12_written 20 = .ok (.iload_n 1, 1) := by decide +kernel
theorem dX12_written_21 : decode cX12_written 21 = .ok (.invokestatic 98, 3) := by decide +kernel
theorem dX12_written_24 : decode cX12_written 24 = .ok (.ifCond .ne 6, 3) := by decide +kernel
theorem dX12_written_27 : decode cX12_written 27 = .ok (.bipush (-102), 2) := by decide +kernel
theorem dX12_written_29 : decode cX12_written 29 = .ok (.ireturn, 1) := by decide +kernel
theorem dX12_written_30 : decode cX12_written 30 = .ok (.aload_n 0, 1) := by decide +kernel
theorem dX12_written_31 : decode cX12_written 31 = .ok (.iload_n 1, 1) := by decide +kernel
theorem dX12_written_32 : decode cX12_written 32 = .ok (.iload_n 2, 1) := by decide +kernel
theorem dX12_written_33 : decode cX12_written 33 = .ok (.invokevirtual 112, 3) := by decide +kernel
theorem dX12_written_36 : decode cX12_written 36 = .ok (.ifCond .eq 7, 3) := by decide +kernel
theorem dX12_written_39 : decode cX12_written 39 = .ok (.iconst 1, 1) := by decide +kernel
theorem dX12_written_40 : decode cX12_written 40 = .ok (.goto 4, 3) := by decide +kernel
theorem dX12_written_43 : decode cX12_written 43 = .ok (.iconst 0, 1) := by decide +kernel
theorem dX12_written_44 : decode cX12_written 44 = .ok (.ireturn, 1) := by decide +kernel
theorem dX12_roomBy_0 : decode cX12_roomBy 0 = .ok (.iload_n 1, 1) := by decide +kernel
theorem dX12_roomBy_1 : decode cX12_roomBy 1 = .ok (.iconst 2, 1) := by decide +kernel
theorem dX12_roomBy_2 : decode cX12_roomBy 2 = .ok (.aload_n 0, 1) := by decide +kernel
theorem dX12_roomBy_3 : decode cX12_roomBy 3 = .ok (.getfield 83, 3) := by decide +kernel
theorem dX12_roomBy_6 : decode cX12_roomBy 6 = .ok (.iconst 1, 1) := by decide +kernel
theorem dX12_roomBy_7 : decode cX12_roomBy 7 = .ok (.isub, 1) := by decide +kernel
theorem dX12_roomBy_8 : decode cX12_roomBy 8 = .ok (.iload_n 2, 1) := by decide +kernel
theorem dX12_roomBy_9 : decode cX12_roomBy 9 = .ok (.isub, 1) := by decide +kernel
theorem dX12_roomBy_10 : decode cX12_roomBy 10 = .ok (.imul, 1) := by decide +kernel
theorem dX12_roomBy_11 : decode cX12_roomBy 11 = .ok (.ishr, 1) := by decide +kernel
theorem dX12_roomBy_12 : decode cX12_roomBy 12 = .ok (.iconst 3, 1) := by decide +kernel
theorem dX12_roomBy_13 : decode cX12_roomBy 13 = .ok (.iand, 1) := by decide +kernel
theorem dX12_roomBy_14 : decode cX12_roomBy 14 = .ok (.ireturn, 1) := by decide +kernel
theorem dX12_movesBy_0 : decode cX12_movesBy 0 = .ok (.iconst 0, 1) := by decide +kernel
theorem dX12_movesBy_1 : decode cX12_movesBy 1 = .ok (.istore_n 2, 1) := by decide +kernel
theorem dX12_movesBy_2 : decode cX12_movesBy 2 = .ok (.iconst 0, 1) := by decide +kernel
theorem dX12_movesBy_3 : decode cX12_movesBy 3 = .ok (.istore_n 3, 1) := by decide +kernel
theorem dX12_movesBy_4 : decode cX12_movesBy 4 = .ok (.iload_n 3, 1) := by decide +kernel
theorem dX12_movesBy_5 : decode cX12_movesBy 5 = .ok (.aload_n 0, 1) := by decide +kernel
theorem dX12_movesBy_6 : decode cX12_movesBy 6 = .ok (.getfield 83, 3) := by decide +kernel
theorem dX12_movesBy_9 : decode cX12_movesBy 9 = .ok (.if_icmp .ge 32, 3) := by decide +kernel
theorem dX12_movesBy_12 : decode cX12_movesBy 12 = .ok (.iload_n 2, 1) := by decide +kernel
theorem dX12_movesBy_13 : decode cX12_movesBy 13 = .ok (.aload_n 0, 1) := by decide +kernel
theorem dX12_movesBy_14 : decode cX12_movesBy 14 = .ok (.iload_n 1, 1) := by decide +kernel
theorem dX12_movesBy_15 : decode cX12_movesBy 15 = .ok (.iload_n 3, 1) := by decide +kernel
theorem dX12_movesBy_16 : decode cX12_movesBy 16 = .ok (.invokevirtual 138, 3) := by decide +kernel
theorem dX12_movesBy_19 : decode cX12_movesBy 19 = .ok (.aload_n 0, 1) := by decide +kernel
theorem dX12_movesBy_20 : decode cX12_movesBy 20 = .ok (.getfield 16, 3) := by decide +kernel
theorem dX12_movesBy_23 : decode cX12_movesBy 23 = .ok (.iload_n 3, 1) := by decide +kernel
theorem dX12_movesBy_24 : decode cX12_movesBy 24 = .ok (.iaload, 1) := by decide +kernel
theorem dX12_movesBy_25 : decode cX12_movesBy 25 = .ok (.if_icmp .ne 7, 3) := by decide +kernel
theorem dX12_movesBy_28 : decode cX12_movesBy 28 = .ok (.iconst 0, 1) := by decide +kernel
theorem dX12_movesBy_29 : decode cX12_movesBy 29 = .ok (.goto 4, 3) := by decide +kernel
theorem dX12_movesBy_32 : decode cX12_movesBy 32 = .ok (.iconst 1, 1) := by decide +kernel
theorem dX12_movesBy_33 : decode cX12_movesBy 33 = .ok (.iadd, 1) := by decide +kernel
theorem dX12_movesBy_34 : decode cX12_movesBy 34 = .ok (.istore_n 2, 1) := by decide +kernel
theorem dX12_movesBy_35 : decode cX12_movesBy 35 = .ok (.iinc 3 1, 3) := by decide +kernel
theorem dX12_movesBy_38 : decode cX12_movesBy 38 = .ok (.goto (-34), 3) := by decide +kernel
theorem dX12_movesBy_41 : decode cX12_movesBy 41 = .ok (.iload_n 2, 1) := by decide +kernel
theorem dX12_movesBy_42 : decode cX12_movesBy 42 = .ok (.ireturn, 1) := by decide +kernel
theorem dX12_isWrittenIf_0 : decode cX12_isWrittenIf 0 = .ok (.iconst 0, 1) := by decide +kernel
theorem dX12_isWrittenIf_1 : decode cX12_isWrittenIf 1 = .ok (.istore_n 3, 1) := by decide +kernel
theorem dX12_isWrittenIf_2 : decode cX12_isWrittenIf 2 = .ok (.iconst 0, 1) := by decide +kernel
theorem dX12_isWrittenIf_3 : decode cX12_isWrittenIf 3 = .ok (.istore 4, 2) := by decide +kernel
theorem dX12_isWrittenIf_5 : decode cX12_isWrittenIf 5 = .ok (.iload 4, 2) := by decide +kernel
theorem dX12_isWrittenIf_7 : decode cX12_isWrittenIf 7 = .ok (.aload_n 0, 1) := by decide +kernel
theorem dX12_isWrittenIf_8 : decode cX12_isWrittenIf 8 = .ok (.getfield 83, 3) := by decide +kernel
theorem dX12_isWrittenIf_11 : decode cX12_isWrittenIf 11 = .ok (.if_icmp .ge 36, 3) := by decide +kernel
theorem dX12_isWrittenIf_14 : decode cX12_isWrittenIf 14 = .ok (.iload_n 3, 1) := by decide +kernel
theorem dX12_isWrittenIf_15 : decode cX12_isWrittenIf 15 = .ok (.aload_n 0, 1) := by decide +kernel
theorem dX12_isWrittenIf_16 : decode cX12_isWrittenIf 16 = .ok (.iload_n 2, 1) := by decide +kernel
theorem dX12_isWrittenIf_17 : decode cX12_isWrittenIf 17 = .ok (.iload 4, 2) := by decide +kernel
theorem dX12_isWrittenIf_19 : decode cX12_isWrittenIf 19 = .ok (.invokevirtual 138, 3) := by decide +kernel
theorem dX12_isWrittenIf_22 : decode cX12_isWrittenIf 22 = .ok (.aload_n 0, 1) := by decide +kernel
theorem dX12_isWrittenIf_23 : decode cX12_isWrittenIf 23 = .ok (.iload_n 2, 1) := by decide +kernel
theorem dX12_isWrittenIf_24 : decode cX12_isWrittenIf 24 = .ok (.iload_n 1, 1) := by decide +kernel
theorem dX12_isWrittenIf_25 : decode cX12_isWrittenIf 25 = .ok (.invokevirtual 138, 3) := by decide +kernel
theorem dX12_isWrittenIf_28 : decode cX12_isWrittenIf 28 = .ok (.if_icmp .ne 10, 3) := by decide +kernel
theorem dX12_isWrittenIf_31 : decode cX12_isWrittenIf 31 = .ok (.iconst 1, 1) := by decide +kernel
theorem dX12_isWrittenIf_32 : decode cX12_isWrittenIf 32 = .ok (.iload 4, 2) := by decide +kernel
theorem dX12_isWrittenIf_34 : decode cX12_isWrittenIf 34 = .ok (.ishl, 1) := by decide +kernel
theorem dX12_isWrittenIf_35 : decode cX12_isWrittenIf 35 = .ok (.goto 4, 3) := by decide +kernel
theorem dX12_isWrittenIf_38 : decode cX12_isWrittenIf 38 = .ok (.iconst 0, 1) := by decide +kernel
theorem dX12_isWrittenIf_39 : decode cX12_isWrittenIf 39 = .ok (.ior, 1) := by decide +kernel
theorem dX12_isWrittenIf_40 : decode cX12_isWrittenIf 40 = .ok (.istore_n 3, 1) := by decide +kernel
theorem dX12_isWrittenIf_41 : decode cX12_isWrittenIf 41 = .ok (.iinc 4 1, 3) := by decide +kernel
theorem dX12_isWrittenIf_44 : decode cX12_isWrittenIf 44 = .ok (.goto (-39), 3) := by decide +kernel
theorem dX12_isWrittenIf_47 : decode cX12_isWrittenIf 47 = .ok (.aload_n 0, 1) := by decide +kernel
theorem dX12_isWrittenIf_48 : decode cX12_isWrittenIf 48 = .ok (.iload_n 1, 1) := by decide +kernel
theorem dX12_isWrittenIf_49 : decode cX12_isWrittenIf 49 = .ok (.iload_n 3, 1) := by decide +kernel
theorem dX12_isWrittenIf_50 : decode cX12_isWrittenIf 50 = .ok (.invokevirtual 112, 3) := by decide +kernel
theorem dX12_isWrittenIf_53 : decode cX12_isWrittenIf 53 = .ok (.ireturn, 1) := by decide +kernel
theorem dX12_movesNow_0 : decode cX12_movesNow 0 = .ok (.iconst (-1), 1) := by decide +kernel
theorem dX12_movesNow_1 : decode cX12_movesNow 1 = .ok (.istore_n 3, 1) := by decide +kernel
theorem dX12_movesNow_2 : decode cX12_movesNow 2 = .ok (.ldc 141, 2) := by decide +kernel
theorem dX12_movesNow_4 : decode cX12_movesNow 4 = .ok (.istore 4, 2) := by decide +kernel
theorem dX12_movesNow_6 : decode cX12_movesNow 6 = .ok (.iconst 0, 1) := by decide +kernel
theorem dX12_movesNow_7 : decode cX12_movesNow 7 = .ok (.istore 5, 2) := by decide +kernel
theorem dX12_movesNow_9 : decode cX12_movesNow 9 = .ok (.iload 5, 2) := by decide +kernel
theorem dX12_movesNow_11 : decode cX12_movesNow 11 = .ok (.iconst 1, 1) := by decide +kernel
theorem dX12_movesNow_12 : decode cX12_movesNow 12 = .ok (.iconst 2, 1) := by decide +kernel
theorem dX12_movesNow_13 : decode cX12_movesNow 13 = .ok (.aload_n 0, 1) := by decide +kernel
theorem dX12_movesNow_14 : decode cX12_movesNow 14 = .ok (.getfield 83, 3) := by decide +kernel
theorem dX12_movesNow_17 : decode cX12_movesNow 17 = .ok (.imul, 1) := by decide +kernel
theorem dX12_movesNow_18 : decode cX12_movesNow 18 = .ok (.ishl, 1) := by decide +kernel
theorem dX12_movesNow_19 : decode cX12_movesNow 19 = .ok (.if_icmp .ge 67, 3) := by decide +kernel
theorem dX12_movesNow_22 : decode cX12_movesNow 22 = .ok (.aload_n 0, 1) := by decide +kernel
theorem dX12_movesNow_23 : decode cX12_movesNow 23 = .ok (.iload 5, 2) := by decide +kernel
theorem dX12_movesNow_25 : decode cX12_movesNow 25 = .ok (.invokevirtual 142, 3) := by decide +kernel
theorem dX12_movesNow_28 : decode cX12_movesNow 28 = .ok (.iload 4, 2) := by decide +kernel
theorem dX12_movesNow_30 : decode cX12_movesNow 30 = .ok (.if_icmp .ge 17, 3) := by decide +kernel
theorem dX12_movesNow_33 : decode cX12_movesNow 33 = .ok (.aload_n 0, 1) := by decide +kernel
theorem dX12_movesNow_34 : decode cX12_movesNow 34 = .ok (.iload_n 1, 1) := by decide +kernel
theorem dX12_movesNow_35 : decode cX12_movesNow 35 = .ok (.iload 5, 2) := by decide +kernel
theorem dX12_movesNow_37 : decode cX12_movesNow 37 = .ok (.invokevirtual 145, 3) := by decide +kernel
theorem dX12_movesNow_40 : decode cX12_movesNow 40 = .ok (.ifCond .eq 7, 3) := by decide +kernel
theorem dX12_movesNow_43 : decode cX12_movesNow 43 = .ok (.iconst 1, 1) := by decide +kernel
theorem dX12_movesNow_44 : decode cX12_movesNow 44 = .ok (.goto 4, 3) := by decide +kernel
theorem dX12_movesNow_47 : decode cX12_movesNow 47 = .ok (.iconst 0, 1) := by decide +kernel
theorem dX12_movesNow_48 : decode cX12_movesNow 48 = .ok (.istore 6, 2) := by decide +kernel
theorem dX12_movesNow_50 : decode cX12_movesNow 50 = .ok (.iload 6, 2) := by decide +kernel
theorem dX12_movesNow_52 : decode cX12_movesNow 52 = .ok (.ifCond .eq 8, 3) := by decide +kernel
theorem dX12_movesNow_55 : decode cX12_movesNow 55 = .ok (.iload 5, 2) := by decide +kernel
theorem dX12_movesNow_57 : decode cX12_movesNow 57 = .ok (.goto 4, 3) := by decide +kernel
theorem dX12_movesNow_60 : decode cX12_movesNow 60 = .ok (.iload_n 3, 1) := by decide +kernel
theorem dX12_movesNow_61 : decode cX12_movesNow 61 = .ok (.istore_n 3, 1) := by decide +kernel
theorem dX12_movesNow_62 : decode cX12_movesNow 62 = .ok (.iload 6, 2) := by decide +kernel
theorem dX12_movesNow_64 : decode cX12_movesNow 64 = .ok (.ifCond .eq 12, 3) := by decide +kernel
theorem dX12_movesNow_67 : decode cX12_movesNow 67 = .ok (.aload_n 0, 1) := by decide +kernel
theorem dX12_movesNow_68 : decode cX12_movesNow 68 = .ok (.iload 5, 2) := by decide +kernel
theorem dX12_movesNow_70 : decode cX12_movesNow 70 = .ok (.invokevirtual 142, 3) := by decide +kernel
theorem dX12_movesNow_73 : decode cX12_movesNow 73 = .ok (.goto 5, 3) := by decide +kernel
theorem dX12_movesNow_76 : decode cX12_movesNow 76 = .ok (.iload 4, 2) := by decide +kernel
theorem dX12_movesNow_78 : decode cX12_movesNow 78 = .ok (.istore 4, 2) := by decide +kernel
theorem dX12_movesNow_80 : decode cX12_movesNow 80 = .ok (.iinc 5 1, 3) := by decide +kernel
theorem dX12_movesNow_83 : decode cX12_movesNow 83 = .ok (.goto (-74), 3) := by decide +kernel
theorem dX12_movesNow_86 : decode cX12_movesNow 86 = .ok (.iload_n 3, 1) := by decide +kernel
theorem dX12_movesNow_87 : decode cX12_movesNow 87 = .ok (.iconst (-1), 1) := by decide +kernel
theorem dX12_movesNow_88 : decode cX12_movesNow 88 = .ok (.if_icmp .ne 5, 3) := by decide +kernel
theorem dX12_movesNow_91 : decode cX12_movesNow 91 = .ok (.iconst (-1), 1) := by decide +kernel
theorem dX12_movesNow_92 : decode cX12_movesNow 92 = .ok (.ireturn, 1) := by decide +kernel
theorem dX12_movesNow_93 : decode cX12_movesNow 93 = .ok (.iload_n 2, 1) := by decide +kernel
theorem dX12_movesNow_94 : decode cX12_movesNow 94 = .ok (.ifCond .ne 8, 3) := by decide +kernel
theorem dX12_movesNow_97 : decode cX12_movesNow 97 = .ok (.iload 4, 2) := by decide +kernel
theorem dX12_movesNow_99 : decode cX12_movesNow 99 = .ok (.goto 27, 3) := by decide +kernel
theorem dX12_movesNow_102 : decode cX12_movesNow 102 = .ok (.aload_n 0, 1) := by decide +kernel
theorem dX12_movesNow_103 : decode cX12_movesNow 103 = .ok (.iload_n 2, 1) := by decide +kernel
theorem dX12_movesNow_104 : decode cX12_movesNow 104 = .ok (.bipush 10, 2) := by decide +kernel
theorem dX12_movesNow_106 : decode cX12_movesNow 106 = .ok (.isub, 1) := by decide +kernel
theorem dX12_movesNow_107 : decode cX12_movesNow 107 = .ok (.invokevirtual 124, 3) := by decide +kernel
theorem dX12_movesNow_110 : decode cX12_movesNow 110 = .ok (.ifCond .eq 15, 3) := by decide +kernel
theorem dX12_movesNow_113 : decode cX12_movesNow 113 = .ok (.aload_n 0, 1) := by decide +kernel
theorem dX12_movesNow_114 : decode cX12_movesNow 114 = .ok (.iload_n 3, 1) := by decide +kernel
theorem dX12_movesNow_115 : decode cX12_movesNow 115 = .ok (.iload_n 2, 1) := by decide +kernel
theorem dX12_movesNow_116 : decode cX12_movesNow 116 = .ok (.bipush 10, 2) := by decide +kernel
theorem dX12_movesNow_118 : decode cX12_movesNow 118 = .ok (.isub, 1) := by decide +kernel
theorem dX12_movesNow_119 : decode cX12_movesNow 119 = .ok (.invokevirtual 138, 3) := by decide +kernel
theorem dX12_movesNow_122 : decode cX12_movesNow 122 = .ok (.goto 4, 3) := by decide +kernel
theorem dX12_movesNow_125 : decode cX12_movesNow 125 = .ok (.iconst (-1), 1) := by decide +kernel
theorem dX12_movesNow_126 : decode cX12_movesNow 126 = .ok (.ireturn, 1) := by decide +kernel
theorem dX12_moves_0 : decode cX12_moves 0 = .ok (.aload_n 0, 1) := by decide +kernel
theorem dX12_moves_1 : decode cX12_moves 1 = .ok (.iload_n 1, 1) := by decide +kernel
theorem dX12_moves_2 : decode cX12_moves 2 = .ok (.invokevirtual 124, 3) := by decide +kernel
theorem dX12_moves_5 : decode cX12_moves 5 = .ok (.ifCond .ne 6, 3) := by decide +kernel
theorem dX12_moves_8 : decode cX12_moves 8 = .ok (.bipush (-101), 2) := by decide +kernel
theorem dX12_moves_10 : decode cX12_moves 10 = .ok (.ireturn, 1) := by decide +kernel
theorem dX12_moves_11 : decode cX12_moves 11 = .ok (.iload_n 2, 1) := by decide +kernel
theorem dX12_moves_12 : decode cX12_moves 12 = .ok (.ifCond .eq 17, 3) := by decide +kernel
theorem dX12_moves_15 : decode cX12_moves 15 = .ok (.iload_n 2, 1) := by decide +kernel
theorem dX12_moves_16 : decode cX12_moves 16 = .ok (.bipush 10, 2) := by decide +kernel
theorem dX12_moves_18 : decode cX12_moves 18 = .ok (.bipush 14, 2) := by decide +kernel
theorem dX12_moves_20 : decode cX12_moves 20 = .ok (.invokestatic 59, 3) := by decide +kernel
theorem dX12_moves_23 : decode cX12_moves 23 = .ok (.ifCond .ne 6, 3) := by decide +kernel
theorem dX12_moves_26 : decode cX12_moves 26 = .ok (.bipush (-102), 2) := by decide +kernel
theorem dX12_moves_28 : decode cX12_moves 28 = .ok (.ireturn, 1) := by decide +kernel
theorem dX12_moves_29 : decode cX12_moves 29 = .ok (.aload_n 0, 1) := by decide +kernel
theorem dX12_moves_30 : decode cX12_moves 30 = .ok (.getfield 148, 3) := by decide +kernel
theorem dX12_moves_33 : decode cX12_moves 33 = .ok (.bipush 40, 2) := by decide +kernel
theorem dX12_moves_35 : decode cX12_moves 35 = .ok (.if_icmp .ne 6, 3) := by decide +kernel
theorem dX12_moves_38 : decode cX12_moves 38 = .ok (.bipush (-103), 2) := by decide +kernel
theorem dX12_moves_40 : decode cX12_moves 40 = .ok (.ireturn, 1) := by decide +kernel
theorem dX12_moves_41 : decode cX12_moves 41 = .ok (.aload_n 0, 1) := by decide +kernel
theorem dX12_moves_42 : decode cX12_moves 42 = .ok (.dup, 1) := by decide +kernel
theorem dX12_moves_43 : decode cX12_moves 43 = .ok (.getfield 148, 3) := by decide +kernel
theorem dX12_moves_46 : decode cX12_moves 46 = .ok (.iconst 1, 1) := by decide +kernel
theorem dX12_moves_47 : decode cX12_moves 47 = .ok (.iadd, 1) := by decide +kernel
theorem dX12_moves_48 : decode cX12_moves 48 = .ok (.putfield 148, 3) := by decide +kernel
theorem dX12_moves_51 : decode cX12_moves 51 = .ok (.aload_n 0, 1) := by decide +kernel
theorem dX12_moves_52 : decode cX12_moves 52 = .ok (.iload_n 1, 1) := by decide +kernel
theorem dX12_moves_53 : decode cX12_moves 53 = .ok (.iload_n 2, 1) := by decide +kernel
theorem dX12_moves_54 : decode cX12_moves 54 = .ok (.invokevirtual 151, 3) := by decide +kernel
theorem dX12_moves_57 : decode cX12_moves 57 = .ok (.ireturn, 1) := by decide +kernel
theorem dX12_layWritten_0 : decode cX12_layWritten 0 = .ok (.iconst 0, 1) := by decide +kernel
theorem dX12_layWritten_1 : decode cX12_layWritten 1 = .ok (.istore_n 1, 1) := by decide +kernel
theorem dX12_layWritten_2 : decode cX12_layWritten 2 = .ok (.iload_n 1, 1) := by decide +kernel
theorem dX12_layWritten_3 : decode cX12_layWritten 3 = .ok (.iconst 1, 1) := by decide +kernel
theorem dX12_layWritten_4 : decode cX12_layWritten 4 = .ok (.aload_n 0, 1) := by decide +kernel
theorem dX12_layWritten_5 : decode cX12_layWritten 5 = .ok (.getfield 83, 3) := by decide +kernel
theorem dX12_layWritten_8 : decode cX12_layWritten 8 = .ok (.ishl, 1) := by decide +kernel
theorem dX12_layWritten_9 : decode cX12_layWritten 9 = .ok (.if_icmp .ge 65, 3) := by decide +kernel
theorem dX12_layWritten_12 : decode cX12_layWritten 12 = .ok (.aload_n 0, 1) := by decide +kernel
theorem dX12_layWritten_13 : decode cX12_layWritten 13 = .ok (.getfield 35, 3) := by decide +kernel
theorem dX12_layWritten_16 : decode cX12_layWritten 16 = .ok (.iload_n 1, 1) := by decide +kernel
theorem dX12_layWritten_17 : decode cX12_layWritten 17 = .ok (.iconst 0, 1) := by decide +kernel
theorem dX12_layWritten_18 : decode cX12_layWritten 18 = .ok (.iastore, 1) := by decide +kernel
theorem dX12_layWritten_19 : decode cX12_layWritten 19 = .ok (.iconst 0, 1) := by decide +kernel
theorem dX12_layWritten_20 : decode cX12_layWritten 20 = .ok (.istore_n 2, 1) := by decide +kernel
theorem dX12_layWritten_21 : decode cX12_layWritten 21 = .ok (.iload_n 2, 1) := by decide +kernel
theorem dX12_layWritten_22 : decode cX12_layWritten 22 = .ok (.aload_n 0, 1) := by decide +kernel
theorem dX12_layWritten_23 : decode cX12_layWritten 23 = .ok (.getfield 83, 3) := by decide +kernel
theorem dX12_layWritten_26 : decode cX12_layWritten 26 = .ok (.if_icmp .ge 42, 3) := by decide +kernel
theorem dX12_layWritten_29 : decode cX12_layWritten 29 = .ok (.aload_n 0, 1) := by decide +kernel
theorem dX12_layWritten_30 : decode cX12_layWritten 30 = .ok (.getfield 35, 3) := by decide +kernel
theorem dX12_layWritten_33 : decode cX12_layWritten 33 = .ok (.iload_n 1, 1) := by decide +kernel
theorem dX12_layWritten_34 : decode cX12_layWritten 34 = .ok (.dup2, 1) := by decide +kernel
theorem dX12_layWritten_35 : decode cX12_layWritten 35 = .ok (.iaload, 1) := by decide +kernel
theorem dX12_layWritten_36 : decode cX12_layWritten 36 = .ok (.iload_n 1, 1) := by decide +kernel
theorem dX12_layWritten_37 : decode cX12_layWritten 37 = .ok (.iload_n 2, 1) := by decide +kernel
theorem dX12_layWritten_38 : decode cX12_layWritten 38 = .ok (.invokestatic 98, 3) := by decide +kernel
theorem dX12_layWritten_41 : decode cX12_layWritten 41 = .ok (.ifCond .eq 18, 3) := by decide +kernel
theorem dX12_layWritten_44 : decode cX12_layWritten 44 = .ok (.aload_n 0, 1) := by decide +kernel
theorem dX12_layWritten_45 : decode cX12_layWritten 45 = .ok (.iload_n 2, 1) := by decide +kernel
theorem dX12_layWritten_46 : decode cX12_layWritten 46 = .ok (.iload_n 1, 1) := by decide +kernel
theorem dX12_layWritten_47 : decode cX12_layWritten 47 = .ok (.invokevirtual 112, 3) := by decide +kernel
theorem dX12_layWritten_50 : decode cX12_layWritten 50 = .ok (.ifCond .eq 9, 3) := by decide +kernel
theorem dX12_layWritten_53 : decode cX12_layWritten 53 = .ok (.iconst 1, 1) := by decide +kernel
theorem dX12_layWritten_54 : decode cX12_layWritten 54 = .ok (.iload_n 2, 1) := by decide +kernel
theorem dX12_layWritten_55 : decode cX12_layWritten 55 = .ok (.ishl, 1) := by decide +kernel
theorem dX12_layWritten_56 : decode cX12_layWritten 56 = .ok (.goto 4, 3) := by decide +kernel
theorem dX12_layWritten_59 : decode cX12_layWritten 59 = .ok (.iconst 0, 1) := by decide +kernel
theorem dX12_layWritten_60 : decode cX12_layWritten 60 = .ok (.ior, 1) := by decide +kernel
theorem dX12_layWritten_61 : decode cX12_layWritten 61 = .ok (.iastore, 1) := by decide +kernel
theorem dX12_layWritten_62 : decode cX12_layWritten 62 = .ok (.iinc 2 1, 3) := by decide +kernel
theorem dX12_layWritten_65 : decode cX12_layWritten 65 = .ok (.goto (-44), 3) := by decide +kernel
theorem dX12_layWritten_68 : decode cX12_layWritten 68 = .ok (.iinc 1 1, 3) := by decide +kernel
theorem dX12_layWritten_71 : decode cX12_layWritten 71 = .ok (.goto (-69), 3) := by decide +kernel
theorem dX12_layWritten_74 : decode cX12_layWritten 74 = .ok (.return_, 1) := by decide +kernel
theorem dX12_writtenBy_0 : decode cX12_writtenBy 0 = .ok (.iconst 0, 1) := by decide +kernel
theorem dX12_writtenBy_1 : decode cX12_writtenBy 1 = .ok (.istore_n 3, 1) := by decide +kernel
theorem dX12_writtenBy_2 : decode cX12_writtenBy 2 = .ok (.iconst 0, 1) := by decide +kernel
theorem dX12_writtenBy_3 : decode cX12_writtenBy 3 = .ok (.istore 4, 2) := by decide +kernel
theorem dX12_writtenBy_5 : decode cX12_writtenBy 5 = .ok (.iload_n 1, 1) := by decide +kernel
theorem dX12_writtenBy_6 : decode cX12_writtenBy 6 = .ok (.iconst 1, 1) := by decide +kernel
theorem dX12_writtenBy_7 : decode cX12_writtenBy 7 = .ok (.isub, 1) := by decide +kernel
theorem dX12_writtenBy_8 : decode cX12_writtenBy 8 = .ok (.istore 5, 2) := by decide +kernel
theorem dX12_writtenBy_10 : decode cX12_writtenBy 10 = .ok (.iload 5, 2) := by decide +kernel
theorem dX12_writtenBy_12 : decode cX12_writtenBy 12 = .ok (.ifCond .lt 54, 3) := by decide +kernel
theorem dX12_writtenBy_15 : decode cX12_writtenBy 15 = .ok (.iload_n 2, 1) := by decide +kernel
theorem dX12_writtenBy_16 : decode cX12_writtenBy 16 = .ok (.iconst 5, 1) := by decide +kernel
theorem dX12_writtenBy_17 : decode cX12_writtenBy 17 = .ok (.iload 5, 2) := by decide +kernel
theorem dX12_writtenBy_19 : decode cX12_writtenBy 19 = .ok (.imul, 1) := by decide +kernel
theorem dX12_writtenBy_20 : decode cX12_writtenBy 20 = .ok (.ishr, 1) := by decide +kernel
theorem dX12_writtenBy_21 : decode cX12_writtenBy 21 = .ok (.bipush 31, 2) := by decide +kernel
theorem dX12_writtenBy_23 : decode cX12_writtenBy 23 = .ok (.iand, 1) := by decide +kernel
theorem dX12_writtenBy_24 : decode cX12_writtenBy 24 = .ok (.istore 6, 2) := by decide +kernel
theorem dX12_writtenBy_26 : decode cX12_writtenBy 26 = .ok (.iload 6, 2) := by decide +kernel
theorem dX12_writtenBy_28 : decode cX12_writtenBy 28 = .ok (.iconst 1, 1) := by decide +kernel
theorem dX12_writtenBy_29 : decode cX12_writtenBy 29 = .ok (.aload_n 0, 1) := by decide +kernel
theorem dX12_writtenBy_30 : decode cX12_writtenBy 30 = .ok (.getfield 83, 3) := by decide +kernel
theorem dX12_writtenBy_33 : decode cX12_writtenBy 33 = .ok (.ishl, 1) := by decide +kernel
theorem dX12_writtenBy_34 : decode cX12_writtenBy 34 = .ok (.if_icmp .ge 10, 3) := by decide +kernel
theorem dX12_writtenBy_37 : decode cX12_writtenBy 37 = .ok (.iload 6, 2) := by decide +kernel
theorem dX12_writtenBy_39 : decode cX12_writtenBy 39 = .ok (.iload 4, 2) := by decide +kernel
theorem dX12_writtenBy_41 : decode cX12_writtenBy 41 = .ok (.if_icmp .ge 5, 3) := by decide +kernel
theorem dX12_writtenBy_44 : decode cX12_writtenBy 44 = .ok (.iconst 0, 1) := by decide +kernel
theorem dX12_writtenBy_45 : decode cX12_writtenBy 45 = .ok (.ireturn, 1) := by decide +kernel
theorem dX12_writtenBy_46 : decode cX12_writtenBy 46 = .ok (.iload_n 3, 1) := by decide +kernel
theorem dX12_writtenBy_47 : decode cX12_writtenBy 47 = .ok (.aload_n 0, 1) := by decide +kernel
theorem dX12_writtenBy_48 : decode cX12_writtenBy 48 = .ok (.getfield 35, 3) := by decide +kernel
theorem dX12_writtenBy_51 : decode cX12_writtenBy 51 = .ok (.iload 6, 2) := by decide +kernel
theorem dX12_writtenBy_53 : decode cX12_writtenBy 53 = .ok (.iaload, 1) := by decide +kernel
theorem dX12_writtenBy_54 : decode cX12_writtenBy 54 = .ok (.ior, 1) := by decide +kernel
theorem dX12_writtenBy_55 : decode cX12_writtenBy 55 = .ok (.istore_n 3, 1) := by decide +kernel
theorem dX12_writtenBy_56 : decode cX12_writtenBy 56 = .ok (.iload 6, 2) := by decide +kernel
theorem dX12_writtenBy_58 : decode cX12_writtenBy 58 = .ok (.istore 4, 2) := by decide +kernel
theorem dX12_writtenBy_60 : decode cX12_writtenBy 60 = .ok (.iinc 5 (-1), 3) := by decide +kernel
theorem dX12_writtenBy_63 : decode cX12_writtenBy 63 = .ok (.goto (-53), 3) := by decide +kernel
theorem dX12_writtenBy_66 : decode cX12_writtenBy 66 = .ok (.iload_n 3, 1) := by decide +kernel
theorem dX12_writtenBy_67 : decode cX12_writtenBy 67 = .ok (.ireturn, 1) := by decide +kernel
theorem dX12_daysNow_0 : decode cX12_daysNow 0 = .ok (.iload_n 1, 1) := by decide +kernel
theorem dX12_daysNow_1 : decode cX12_daysNow 1 = .ok (.ifCond .ne 13, 3) := by decide +kernel
theorem dX12_daysNow_4 : decode cX12_daysNow 4 = .ok (.iload_n 2, 1) := by decide +kernel
theorem dX12_daysNow_5 : decode cX12_daysNow 5 = .ok (.ifCond .ne 7, 3) := by decide +kernel
theorem dX12_daysNow_8 : decode cX12_daysNow 8 = .ok (.iconst 0, 1) := by decide +kernel
theorem dX12_daysNow_9 : decode cX12_daysNow 9 = .ok (.goto 4, 3) := by decide +kernel
theorem dX12_daysNow_12 : decode cX12_daysNow 12 = .ok (.iconst (-1), 1) := by decide +kernel
theorem dX12_daysNow_13 : decode cX12_daysNow 13 = .ok (.ireturn, 1) := by decide +kernel
theorem dX12_daysNow_14 : decode cX12_daysNow 14 = .ok (.aload_n 0, 1) := by decide +kernel
theorem dX12_daysNow_15 : decode cX12_daysNow 15 = .ok (.invokevirtual 154, 3) := by decide +kernel
theorem dX12_daysNow_18 : decode cX12_daysNow 18 = .ok (.iconst 1, 1) := by decide +kernel
theorem dX12_daysNow_19 : decode cX12_daysNow 19 = .ok (.istore_n 3, 1) := by decide +kernel
theorem dX12_daysNow_20 : decode cX12_daysNow 20 = .ok (.iload_n 3, 1) := by decide +kernel
theorem dX12_daysNow_21 : decode cX12_daysNow 21 = .ok (.iconst 3, 1) := by decide +kernel
theorem dX12_daysNow_22 : decode cX12_daysNow 22 = .ok (.if_icmp .gt 78, 3) := by decide +kernel
theorem dX12_daysNow_25 : decode cX12_daysNow 25 = .ok (.iconst 0, 1) := by decide +kernel
theorem dX12_daysNow_26 : decode cX12_daysNow 26 = .ok (.istore 4, 2) := by decide +kernel
theorem dX12_daysNow_28 : decode cX12_daysNow 28 = .ok (.iload 4, 2) := by decide +kernel
theorem dX12_daysNow_30 : decode cX12_daysNow 30 = .ok (.iconst 1, 1) := by decide +kernel
theorem dX12_daysNow_31 : decode cX12_daysNow 31 = .ok (.iconst 5, 1) := by decide +kernel
theorem dX12_daysNow_32 : decode cX12_daysNow 32 = .ok (.iload_n 3, 1) := by decide +kernel
theorem dX12_daysNow_33 : decode cX12_daysNow 33 = .ok (.imul, 1) := by decide +kernel
theorem dX12_daysNow_34 : decode cX12_daysNow 34 = .ok (.ishl, 1) := by decide +kernel
theorem dX12_daysNow_35 : decode cX12_daysNow 35 = .ok (.if_icmp .ge 59, 3) := by decide +kernel
theorem dX12_daysNow_38 : decode cX12_daysNow 38 = .ok (.aload_n 0, 1) := by decide +kernel
theorem dX12_daysNow_39 : decode cX12_daysNow 39 = .ok (.iload_n 3, 1) := by decide +kernel
theorem dX12_daysNow_40 : decode cX12_daysNow 40 = .ok (.iload 4, 2) := by decide +kernel
theorem dX12_daysNow_42 : decode cX12_daysNow 42 = .ok (.invokevirtual 157, 3) := by decide +kernel
theorem dX12_daysNow_45 : decode cX12_daysNow 45 = .ok (.iload_n 1, 1) := by decide +kernel
theorem dX12_daysNow_46 : decode cX12_daysNow 46 = .ok (.iand, 1) := by decide +kernel
theorem dX12_daysNow_47 : decode cX12_daysNow 47 = .ok (.iload_n 1, 1) := by decide +kernel
theorem dX12_daysNow_48 : decode cX12_daysNow 48 = .ok (.if_icmp .ne 40, 3) := by decide +kernel
theorem dX12_daysNow_51 : decode cX12_daysNow 51 = .ok (.iload_n 2, 1) := by decide +kernel
theorem dX12_daysNow_52 : decode cX12_daysNow 52 = .ok (.ifCond .ne 7, 3) := by decide +kernel
theorem dX12_daysNow_55 : decode cX12_daysNow 55 = .ok (.iload_n 3, 1) := by decide +kernel
theorem dX12_daysNow_56 : decode cX12_daysNow 56 = .ok (.goto 31, 3) := by decide +kernel
theorem dX12_daysNow_59 : decode cX12_daysNow 59 = .ok (.iload_n 2, 1) := by decide +kernel
theorem dX12_daysNow_60 : decode cX12_daysNow 60 = .ok (.bipush 10, 2) := by decide +kernel
theorem dX12_daysNow_62 : decode cX12_daysNow 62 = .ok (.isub, 1) := by decide +kernel
theorem dX12_daysNow_63 : decode cX12_daysNow 63 = .ok (.iload_n 3, 1) := by decide +kernel
theorem dX12_daysNow_64 : decode cX12_daysNow 64 = .ok (.if_icmp .ge 22, 3) := by decide +kernel
theorem dX12_daysNow_67 : decode cX12_daysNow 67 = .ok (.iload 4, 2) := by decide +kernel
theorem dX12_daysNow_69 : decode cX12_daysNow 69 = .ok (.iconst 5, 1) := by decide +kernel
theorem dX12_daysNow_70 : decode cX12_daysNow 70 = .ok (.iload_n 3, 1) := by decide +kernel
theorem dX12_daysNow_71 : decode cX12_daysNow 71 = .ok (.iconst 1, 1) := by decide +kernel
theorem dX12_daysNow_72 : decode cX12_daysNow 72 = .ok (.isub, 1) := by decide +kernel
theorem dX12_daysNow_73 : decode cX12_daysNow 73 = .ok (.iload_n 2, 1) := by decide +kernel
theorem dX12_daysNow_74 : decode cX12_daysNow 74 = .ok (.bipush 10, 2) := by decide +kernel
theorem dX12_daysNow_76 : decode cX12_daysNow 76 = .ok (.isub, 1) := by decide +kernel
theorem dX12_daysNow_77 : decode cX12_daysNow 77 = .ok (.isub, 1) := by decide +kernel
theorem dX12_daysNow_78 : decode cX12_daysNow 78 = .ok (.imul, 1) := by decide +kernel
theorem dX12_daysNow_79 : decode cX12_daysNow 79 = .ok (.ishr, 1) := by decide +kernel
theorem dX12_daysNow_80 : decode cX12_daysNow 80 = .ok (.bipush 31, 2) := by decide +kernel
theorem dX12_daysNow_82 : decode cX12_daysNow 82 = .ok (.iand, 1) := by decide +kernel
theorem dX12_daysNow_83 : decode cX12_daysNow 83 = .ok (.goto 4, 3) := by decide +kernel
theorem dX12_daysNow_86 : decode cX12_daysNow 86 = .ok (.iconst (-1), 1) := by decide +kernel
theorem dX12_daysNow_87 : decode cX12_daysNow 87 = .ok (.ireturn, 1) := by decide +kernel
theorem dX12_daysNow_88 : decode cX12_daysNow 88 = .ok (.iinc 4 1, 3) := by decide +kernel
theorem dX12_daysNow_91 : decode cX12_daysNow 91 = .ok (.goto (-63), 3) := by decide +kernel
theorem dX12_daysNow_94 : decode cX12_daysNow 94 = .ok (.iinc 3 1, 3) := by decide +kernel
theorem dX12_daysNow_97 : decode cX12_daysNow 97 = .ok (.goto (-77), 3) := by decide +kernel
theorem dX12_daysNow_100 : decode cX12_daysNow 100 = .ok (.iconst (-1), 1) := by decide +kernel
theorem dX12_daysNow_101 : decode cX12_daysNow 101 = .ok (.ireturn, 1) := by decide +kernel
theorem dX12_days_0 : decode cX12_days 0 = .ok (.aload_n 0, 1) := by decide +kernel
theorem dX12_days_1 : decode cX12_days 1 = .ok (.iload_n 1, 1) := by decide +kernel
theorem dX12_days_2 : decode cX12_days 2 = .ok (.invokevirtual 135, 3) := by decide +kernel
theorem dX12_days_5 : decode cX12_days 5 = .ok (.ifCond .eq 18, 3) := by decide +kernel
theorem dX12_days_8 : decode cX12_days 8 = .ok (.iload_n 2, 1) := by decide +kernel
theorem dX12_days_9 : decode cX12_days 9 = .ok (.ifCond .eq 17, 3) := by decide +kernel
theorem dX12_days_12 : decode cX12_days 12 = .ok (.iload_n 2, 1) := by decide +kernel
theorem dX12_days_13 : decode cX12_days 13 = .ok (.bipush 10, 2) := by decide +kernel
theorem dX12_days_15 : decode cX12_days 15 = .ok (.bipush 12, 2) := by decide +kernel
theorem dX12_days_17 : decode cX12_days 17 = .ok (.invokestatic 59, 3) := by decide +kernel
theorem dX12_days_20 : decode cX12_days 20 = .ok (.ifCond .ne 6, 3) := by decide +kernel
theorem dX12_days_23 : decode cX12_days 23 = .ok (.bipush (-102), 2) := by decide +kernel
theorem dX12_days_25 : decode cX12_days 25 = .ok (.ireturn, 1) := by decide +kernel
theorem dX12_days_26 : decode cX12_days 26 = .ok (.aload_n 0, 1) := by decide +kernel
theorem dX12_days_27 : decode cX12_days 27 = .ok (.getfield 83, 3) := by decide +kernel
theorem dX12_days_30 : decode cX12_days 30 = .ok (.ifCond .eq 12, 3) := by decide +kernel
theorem dX12_days_33 : decode cX12_days 33 = .ok (.aload_n 0, 1) := by decide +kernel
theorem dX12_days_34 : decode cX12_days 34 = .ok (.getfield 160, 3) := by decide +kernel
theorem dX12_days_37 : decode cX12_days 37 = .ok (.bipush 40, 2) := by decide +kernel
theorem dX12_days_39 : decode cX12_days 39 = .ok (.if_icmp .ne 6, 3) := by decide +kernel
theorem dX12_days_42 : decode cX12_days 42 = .ok (.bipush (-103), 2) := by decide +kernel
theorem dX12_days_44 : decode cX12_days 44 = .ok (.ireturn, 1) := by decide +kernel
theorem dX12_days_45 : decode cX12_days 45 = .ok (.aload_n 0, 1) := by decide +kernel
theorem dX12_days_46 : decode cX12_days 46 = .ok (.dup, 1) := by decide +kernel
theorem dX12_days_47 : decode cX12_days 47 = .ok (.getfield 160, 3) := by decide +kernel
theorem dX12_days_50 : decode cX12_days 50 = .ok (.iconst 1, 1) := by decide +kernel
theorem dX12_days_51 : decode cX12_days 51 = .ok (.iadd, 1) := by decide +kernel
theorem dX12_days_52 : decode cX12_days 52 = .ok (.putfield 160, 3) := by decide +kernel
theorem dX12_days_55 : decode cX12_days 55 = .ok (.aload_n 0, 1) := by decide +kernel
theorem dX12_days_56 : decode cX12_days 56 = .ok (.iload_n 1, 1) := by decide +kernel
theorem dX12_days_57 : decode cX12_days 57 = .ok (.iload_n 2, 1) := by decide +kernel
theorem dX12_days_58 : decode cX12_days 58 = .ok (.invokevirtual 163, 3) := by decide +kernel
theorem dX12_days_61 : decode cX12_days 61 = .ok (.ireturn, 1) := by decide +kernel
theorem dX12_hear_0 : decode cX12_hear 0 = .ok (.aload_n 0, 1) := by decide +kernel
theorem dX12_hear_1 : decode cX12_hear 1 = .ok (.iload_n 1, 1) := by decide +kernel
theorem dX12_hear_2 : decode cX12_hear 2 = .ok (.invokevirtual 124, 3) := by decide +kernel
theorem dX12_hear_5 : decode cX12_hear 5 = .ok (.ifCond .ne 6, 3) := by decide +kernel
theorem dX12_hear_8 : decode cX12_hear 8 = .ok (.bipush (-101), 2) := by decide +kernel
theorem dX12_hear_10 : decode cX12_hear 10 = .ok (.ireturn, 1) := by decide +kernel
theorem dX12_hear_11 : decode cX12_hear 11 = .ok (.aload_n 0, 1) := by decide +kernel
theorem dX12_hear_12 : decode cX12_hear 12 = .ok (.iload_n 2, 1) := by decide +kernel
theorem dX12_hear_13 : decode cX12_hear 13 = .ok (.invokevirtual 135, 3) := by decide +kernel
theorem dX12_hear_16 : decode cX12_hear 16 = .ok (.ifCond .eq 11, 3) := by decide +kernel
theorem dX12_hear_19 : decode cX12_hear 19 = .ok (.iload_n 2, 1) := by decide +kernel
theorem dX12_hear_20 : decode cX12_hear 20 = .ok (.iload_n 1, 1) := by decide +kernel
theorem dX12_hear_21 : decode cX12_hear 21 = .ok (.invokestatic 98, 3) := by decide +kernel
theorem dX12_hear_24 : decode cX12_hear 24 = .ok (.ifCond .ne 6, 3) := by decide +kernel
theorem dX12_hear_27 : decode cX12_hear 27 = .ok (.bipush (-102), 2) := by decide +kernel
theorem dX12_hear_29 : decode cX12_hear 29 = .ok (.ireturn, 1) := by decide +kernel
theorem dX12_hear_30 : decode cX12_hear 30 = .ok (.aload_n 0, 1) := by decide +kernel
theorem dX12_hear_31 : decode cX12_hear 31 = .ok (.getfield 95, 3) := by decide +kernel
theorem dX12_hear_34 : decode cX12_hear 34 = .ok (.bipush 6, 2) := by decide +kernel
theorem dX12_hear_36 : decode cX12_hear 36 = .ok (.if_icmp .ne 6, 3) := by decide +kernel
theorem dX12_hear_39 : decode cX12_hear 39 = .ok (.bipush (-104), 2) := by decide +kernel
theorem dX12_hear_41 : decode cX12_hear 41 = .ok (.ireturn, 1) := by decide +kernel
theorem dX12_hear_42 : decode cX12_hear 42 = .ok (.aload_n 0, 1) := by decide +kernel
theorem dX12_hear_43 : decode cX12_hear 43 = .ok (.getfield 22, 3) := by decide +kernel
theorem dX12_hear_46 : decode cX12_hear 46 = .ok (.aload_n 0, 1) := by decide +kernel
theorem dX12_hear_47 : decode cX12_hear 47 = .ok (.getfield 95, 3) := by decide +kernel
theorem dX12_hear_50 : decode cX12_hear 50 = .ok (.iload_n 1, 1) := by decide +kernel
theorem dX12_hear_51 : decode cX12_hear 51 = .ok (.iastore, 1) := by decide +kernel
theorem dX12_hear_52 : decode cX12_hear 52 = .ok (.aload_n 0, 1) := by decide +kernel
theorem dX12_hear_53 : decode cX12_hear 53 = .ok (.getfield 25, 3) := by decide +kernel
theorem dX12_hear_56 : decode cX12_hear 56 = .ok (.aload_n 0, 1) := by decide +kernel
theorem dX12_hear_57 : decode cX12_hear 57 = .ok (.getfield 95, 3) := by decide +kernel
theorem dX12_hear_60 : decode cX12_hear 60 = .ok (.iload_n 2, 1) := by decide +kernel
theorem dX12_hear_61 : decode cX12_hear 61 = .ok (.iastore, 1) := by decide +kernel
theorem dX12_hear_62 : decode cX12_hear 62 = .ok (.aload_n 0, 1) := by decide +kernel
theorem dX12_hear_63 : decode cX12_hear 63 = .ok (.getfield 28, 3) := by decide +kernel
theorem dX12_hear_66 : decode cX12_hear 66 = .ok (.aload_n 0, 1) := by decide +kernel
theorem dX12_hear_67 : decode cX12_hear 67 = .ok (.getfield 95, 3) := by decide +kernel
theorem dX12_hear_70 : decode cX12_hear 70 = .ok (.iload_n 3, 1) := by decide +kernel
theorem dX12_hear_71 : decode cX12_hear 71 = .ok (.ifCond .eq 7, 3) := by decide +kernel
theorem dX12_hear_74 : decode cX12_hear 74 = .ok (.iconst 1, 1) := by decide +kernel
theorem dX12_hear_75 : decode cX12_hear 75 = .ok (.goto 4, 3) := by decide +kernel
theorem dX12_hear_78 : decode cX12_hear 78 = .ok (.iconst 0, 1) := by decide +kernel
theorem dX12_hear_79 : decode cX12_hear 79 = .ok (.iastore, 1) := by decide +kernel
theorem dX12_hear_80 : decode cX12_hear 80 = .ok (.aload_n 0, 1) := by decide +kernel
theorem dX12_hear_81 : decode cX12_hear 81 = .ok (.dup, 1) := by decide +kernel
theorem dX12_hear_82 : decode cX12_hear 82 = .ok (.getfield 95, 3) := by decide +kernel
theorem dX12_hear_85 : decode cX12_hear 85 = .ok (.iconst 1, 1) := by decide +kernel
theorem dX12_hear_86 : decode cX12_hear 86 = .ok (.iadd, 1) := by decide +kernel
theorem dX12_hear_87 : decode cX12_hear 87 = .ok (.putfield 95, 3) := by decide +kernel
theorem dX12_hear_90 : decode cX12_hear 90 = .ok (.aload_n 0, 1) := by decide +kernel
theorem dX12_hear_91 : decode cX12_hear 91 = .ok (.getfield 95, 3) := by decide +kernel
theorem dX12_hear_94 : decode cX12_hear 94 = .ok (.ireturn, 1) := by decide +kernel
theorem dX12_forget_0 : decode cX12_forget 0 = .ok (.aload_n 0, 1) := by decide +kernel
theorem dX12_forget_1 : decode cX12_forget 1 = .ok (.getfield 95, 3) := by decide +kernel
theorem dX12_forget_4 : decode cX12_forget 4 = .ok (.istore_n 1, 1) := by decide +kernel
theorem dX12_forget_5 : decode cX12_forget 5 = .ok (.aload_n 0, 1) := by decide +kernel
theorem dX12_forget_6 : decode cX12_forget 6 = .ok (.iconst 0, 1) := by decide +kernel
theorem dX12_forget_7 : decode cX12_forget 7 = .ok (.putfield 95, 3) := by decide +kernel
theorem dX12_forget_10 : decode cX12_forget 10 = .ok (.iload_n 1, 1) := by decide +kernel
theorem dX12_forget_11 : decode cX12_forget 11 = .ok (.ireturn, 1) := by decide +kernel
theorem dX12_couldHold_0 : decode cX12_couldHold 0 = .ok (.iconst 1, 1) := by decide +kernel
theorem dX12_couldHold_1 : decode cX12_couldHold 1 = .ok (.istore 4, 2) := by decide +kernel
theorem dX12_couldHold_3 : decode cX12_couldHold 3 = .ok (.iconst 0, 1) := by decide +kernel
theorem dX12_couldHold_4 : decode cX12_couldHold 4 = .ok (.istore 5, 2) := by decide +kernel
theorem dX12_couldHold_6 : decode cX12_couldHold 6 = .ok (.iload 5, 2) := by decide +kernel
theorem dX12_couldHold_8 : decode cX12_couldHold 8 = .ok (.aload_n 0, 1) := by decide +kernel
theorem dX12_couldHold_9 : decode cX12_couldHold 9 = .ok (.getfield 95, 3) := by decide +kernel
theorem dX12_couldHold_12 : decode cX12_couldHold 12 = .ok (.if_icmp .ge 65, 3) := by decide +kernel
theorem dX12_couldHold_15 : decode cX12_couldHold 15 = .ok (.iload 4, 2) := by decide +kernel
theorem dX12_couldHold_17 : decode cX12_couldHold 17 = .ok (.ifCond .eq 51, 3) := by decide +kernel
theorem dX12_couldHold_20 : decode cX12_couldHold 20 = .ok (.aload_n 0, 1) := by decide +kernel
theorem dX12_couldHold_21 : decode cX12_couldHold 21 = .ok (.getfield 22, 3) := by decide +kernel
theorem dX12_couldHold_24 : decode cX12_couldHold 24 = .ok (.iload 5, 2) := by decide +kernel
theorem dX12_couldHold_26 : decode cX12_couldHold 26 = .ok (.iaload, 1) := by decide +kernel
theorem dX12_couldHold_27 : decode cX12_couldHold 27 = .ok (.iload_n 1, 1) := by decide +kernel
theorem dX12_couldHold_28 : decode cX12_couldHold 28 = .ok (.if_icmp .ne 36, 3) := by decide +kernel
theorem dX12_couldHold_31 : decode cX12_couldHold 31 = .ok (.aload_n 0, 1) := by decide +kernel
theorem dX12_couldHold_32 : decode cX12_couldHold 32 = .ok (.iload_n 1, 1) := by decide +kernel
theorem dX12_couldHold_33 : decode cX12_couldHold 33 = .ok (.iload_n 2, 1) := by decide +kernel
theorem dX12_couldHold_34 : decode cX12_couldHold 34 = .ok (.iload_n 3, 1) := by decide +kernel
theorem dX12_couldHold_35 : decode cX12_couldHold 35 = .ok (.aload_n 0, 1) := by decide +kernel
theorem dX12_couldHold_36 : decode cX12_couldHold 36 = .ok (.getfield 25, 3) := by decide +kernel
theorem dX12_couldHold_39 : decode cX12_couldHold 39 = .ok (.iload 5, 2) := by decide +kernel
theorem dX12_couldHold_41 : decode cX12_couldHold 41 = .ok (.iaload, 1) := by decide +kernel
theorem dX12_couldHold_42 : decode cX12_couldHold 42 = .ok (.invokevirtual 105, 3) := by decide +kernel
theorem dX12_couldHold_45 : decode cX12_couldHold 45 = .ok (.aload_n 0, 1) := by decide +kernel
theorem dX12_couldHold_46 : decode cX12_couldHold 46 = .ok (.getfield 28, 3) := by decide +kernel
theorem dX12_couldHold_49 : decode cX12_couldHold 49 = .ok (.iload 5, 2) := by decide +kernel
theorem dX12_couldHold_51 : decode cX12_couldHold 51 = .ok (.iaload, 1) := by decide +kernel
theorem dX12_couldHold_52 : decode cX12_couldHold 52 = .ok (.iconst 1, 1) := by decide +kernel
theorem dX12_couldHold_53 : decode cX12_couldHold 53 = .ok (.if_icmp .ne 7, 3) := by decide +kernel
theorem dX12_couldHold_56 : decode cX12_couldHold 56 = .ok (.iconst 1, 1) := by decide +kernel
theorem dX12_couldHold_57 : decode cX12_couldHold 57 = .ok (.goto 4, 3) := by decide +kernel
theorem dX12_couldHold_60 : decode cX12_couldHold 60 = .ok (.iconst 0, 1) := by decide +kernel
theorem dX12_couldHold_61 : decode cX12_couldHold 61 = .ok (.if_icmp .ne 7, 3) := by decide +kernel
theorem dX12_couldHold_64 : decode cX12_couldHold 64 = .ok (.iconst 1, 1) := by decide +kernel
theorem dX12_couldHold_65 : decode cX12_couldHold 65 = .ok (.goto 4, 3) := by decide +kernel
theorem dX12_couldHold_68 : decode cX12_couldHold 68 = .ok (.iconst 0, 1) := by decide +kernel
theorem dX12_couldHold_69 : decode cX12_couldHold 69 = .ok (.istore 4, 2) := by decide +kernel
theorem dX12_couldHold_71 : decode cX12_couldHold 71 = .ok (.iinc 5 1, 3) := by decide +kernel
theorem dX12_couldHold_74 : decode cX12_couldHold 74 = .ok (.goto (-68), 3) := by decide +kernel
theorem dX12_couldHold_77 : decode cX12_couldHold 77 = .ok (.iload 4, 2) := by decide +kernel
theorem dX12_couldHold_79 : decode cX12_couldHold 79 = .ok (.ireturn, 1) := by decide +kernel
theorem dX12_holdersNow_0 : decode cX12_holdersNow 0 = .ok (.iconst 0, 1) := by decide +kernel
theorem dX12_holdersNow_1 : decode cX12_holdersNow 1 = .ok (.istore_n 3, 1) := by decide +kernel
theorem dX12_holdersNow_2 : decode cX12_holdersNow 2 = .ok (.iconst (-1), 1) := by decide +kernel
theorem dX12_holdersNow_3 : decode cX12_holdersNow 3 = .ok (.istore 4, 2) := by decide +kernel
theorem dX12_holdersNow_5 : decode cX12_holdersNow 5 = .ok (.aload_n 0, 1) := by decide +kernel
theorem dX12_holdersNow_6 : decode cX12_holdersNow 6 = .ok (.getfield 83, 3) := by decide +kernel
theorem dX12_holdersNow_9 : decode cX12_holdersNow 9 = .ok (.aload_n 0, 1) := by decide +kernel
theorem dX12_holdersNow_10 : decode cX12_holdersNow 10 = .ok (.getfield 83, 3) := by decide +kernel
theorem dX12_holdersNow_13 : decode cX12_holdersNow 13 = .ok (.imul, 1) := by decide +kernel
theorem dX12_holdersNow_14 : decode cX12_holdersNow 14 = .ok (.iconst 1, 1) := by decide +kernel
theorem dX12_holdersNow_15 : decode cX12_holdersNow 15 = .ok (.isub, 1) := by decide +kernel
theorem dX12_holdersNow_16 : decode cX12_holdersNow 16 = .ok (.istore 5, 2) := by decide +kernel
theorem dX12_holdersNow_18 : decode cX12_holdersNow 18 = .ok (.iload 5, 2) := by decide +kernel
theorem dX12_holdersNow_20 : decode cX12_holdersNow 20 = .ok (.ifCond .lt 73, 3) := by decide +kernel
theorem dX12_holdersNow_23 : decode cX12_holdersNow 23 = .ok (.aload_n 0, 1) := by decide +kernel
theorem dX12_holdersNow_24 : decode cX12_holdersNow 24 = .ok (.iload_n 1, 1) := by decide +kernel
theorem dX12_holdersNow_25 : decode cX12_holdersNow 25 = .ok (.iload 5, 2) := by decide +kernel
theorem dX12_holdersNow_27 : decode cX12_holdersNow 27 = .ok (.aload_n 0, 1) := by decide +kernel
theorem dX12_holdersNow_28 : decode cX12_holdersNow 28 = .ok (.getfield 83, 3) := by decide +kernel
theorem dX12_holdersNow_31 : decode cX12_holdersNow 31 = .ok (.idiv, 1) := by decide +kernel
theorem dX12_holdersNow_32 : decode cX12_holdersNow 32 = .ok (.iload 5, 2) := by decide +kernel
theorem dX12_holdersNow_34 : decode cX12_holdersNow 34 = .ok (.aload_n 0, 1) := by decide +kernel
theorem dX12_holdersNow_35 : decode cX12_holdersNow 35 = .ok (.getfield 83, 3) := by decide +kernel
theorem dX12_holdersNow_38 : decode cX12_holdersNow 38 = .ok (.irem, 1) := by decide +kernel
theorem dX12_holdersNow_39 : decode cX12_holdersNow 39 = .ok (.invokevirtual 166, 3) := by decide +kernel
theorem dX12_holdersNow_42 : decode cX12_holdersNow 42 = .ok (.istore 6, 2) := by decide +kernel
theorem dX12_holdersNow_44 : decode cX12_holdersNow 44 = .ok (.iload_n 3, 1) := by decide +kernel
theorem dX12_holdersNow_45 : decode cX12_holdersNow 45 = .ok (.iload 6, 2) := by decide +kernel
theorem dX12_holdersNow_47 : decode cX12_holdersNow 47 = .ok (.ifCond .eq 7, 3) := by decide +kernel
theorem dX12_holdersNow_50 : decode cX12_holdersNow 50 = .ok (.iconst 1, 1) := by decide +kernel
theorem dX12_holdersNow_51 : decode cX12_holdersNow 51 = .ok (.goto 4, 3) := by decide +kernel
theorem dX12_holdersNow_54 : decode cX12_holdersNow 54 = .ok (.iconst 0, 1) := by decide +kernel
theorem dX12_holdersNow_55 : decode cX12_holdersNow 55 = .ok (.iadd, 1) := by decide +kernel
theorem dX12_holdersNow_56 : decode cX12_holdersNow 56 = .ok (.istore_n 3, 1) := by decide +kernel
theorem dX12_holdersNow_57 : decode cX12_holdersNow 57 = .ok (.iload 6, 2) := by decide +kernel
theorem dX12_holdersNow_59 : decode cX12_holdersNow 59 = .ok (.ifCond .eq 24, 3) := by decide +kernel
theorem dX12_holdersNow_62 : decode cX12_holdersNow 62 = .ok (.bipush 10, 2) := by decide +kernel
theorem dX12_holdersNow_64 : decode cX12_holdersNow 64 = .ok (.iload 5, 2) := by decide +kernel
theorem dX12_holdersNow_66 : decode cX12_holdersNow 66 = .ok (.aload_n 0, 1) := by decide +kernel
theorem dX12_holdersNow_67 : decode cX12_holdersNow 67 = .ok (.getfield 83, 3) := by decide +kernel
theorem dX12_holdersNow_70 : decode cX12_holdersNow 70 = .ok (.idiv, 1) := by decide +kernel
theorem dX12_holdersNow_71 : decode cX12_holdersNow 71 = .ok (.imul, 1) := by decide +kernel
theorem dX12_holdersNow_72 : decode cX12_holdersNow 72 = .ok (.iload 5, 2) := by decide +kernel
theorem dX12_holdersNow_74 : decode cX12_holdersNow 74 = .ok (.aload_n 0, 1) := by decide +kernel
theorem dX12_holdersNow_75 : decode cX12_holdersNow 75 = .ok (.getfield 83, 3) := by decide +kernel
theorem dX12_holdersNow_78 : decode cX12_holdersNow 78 = .ok (.irem, 1) := by decide +kernel
theorem dX12_holdersNow_79 : decode cX12_holdersNow 79 = .ok (.iadd, 1) := by decide +kernel
theorem dX12_holdersNow_80 : decode cX12_holdersNow 80 = .ok (.goto 5, 3) := by decide +kernel
theorem dX12_holdersNow_83 : decode cX12_holdersNow 83 = .ok (.iload 4, 2) := by decide +kernel
theorem dX12_holdersNow_85 : decode cX12_holdersNow 85 = .ok (.istore 4, 2) := by decide +kernel
theorem dX12_holdersNow_87 : decode cX12_holdersNow 87 = .ok (.iinc 5 (-1), 3) := by decide +kernel
theorem dX12_holdersNow_90 : decode cX12_holdersNow 90 = .ok (.goto (-72), 3) := by decide +kernel
theorem dX12_holdersNow_93 : decode cX12_holdersNow 93 = .ok (.iload_n 2, 1) := by decide +kernel
theorem dX12_holdersNow_94 : decode cX12_holdersNow 94 = .ok (.ifCond .ne 7, 3) := by decide +kernel
theorem dX12_holdersNow_97 : decode cX12_holdersNow 97 = .ok (.iload_n 3, 1) := by decide +kernel
theorem dX12_holdersNow_98 : decode cX12_holdersNow 98 = .ok (.goto 5, 3) := by decide +kernel
theorem dX12_holdersNow_101 : decode cX12_holdersNow 101 = .ok (.iload 4, 2) := by decide +kernel
theorem dX12_holdersNow_103 : decode cX12_holdersNow 103 = .ok (.ireturn, 1) := by decide +kernel
theorem dX12_holders_0 : decode cX12_holders 0 = .ok (.aload_n 0, 1) := by decide +kernel
theorem dX12_holders_1 : decode cX12_holders 1 = .ok (.iload_n 1, 1) := by decide +kernel
theorem dX12_holders_2 : decode cX12_holders 2 = .ok (.invokevirtual 124, 3) := by decide +kernel
theorem dX12_holders_5 : decode cX12_holders 5 = .ok (.ifCond .ne 6, 3) := by decide +kernel
theorem dX12_holders_8 : decode cX12_holders 8 = .ok (.bipush (-101), 2) := by decide +kernel
theorem dX12_holders_10 : decode cX12_holders 10 = .ok (.ireturn, 1) := by decide +kernel
theorem dX12_holders_11 : decode cX12_holders 11 = .ok (.iload_n 2, 1) := by decide +kernel
theorem dX12_holders_12 : decode cX12_holders 12 = .ok (.iconst 0, 1) := by decide +kernel
theorem dX12_holders_13 : decode cX12_holders 13 = .ok (.iconst 1, 1) := by decide +kernel
theorem dX12_holders_14 : decode cX12_holders 14 = .ok (.invokestatic 59, 3) := by decide +kernel
theorem dX12_holders_17 : decode cX12_holders 17 = .ok (.ifCond .eq 12, 3) := by decide +kernel
theorem dX12_holders_20 : decode cX12_holders 20 = .ok (.aload_n 0, 1) := by decide +kernel
theorem dX12_holders_21 : decode cX12_holders 21 = .ok (.iload_n 1, 1) := by decide +kernel
theorem dX12_holders_22 : decode cX12_holders 22 = .ok (.iload_n 2, 1) := by decide +kernel
theorem dX12_holders_23 : decode cX12_holders 23 = .ok (.invokevirtual 169, 3) := by decide +kernel
theorem dX12_holders_26 : decode cX12_holders 26 = .ok (.goto 5, 3) := by decide +kernel
theorem dX12_holders_29 : decode cX12_holders 29 = .ok (.bipush (-102), 2) := by decide +kernel
theorem dX12_holders_31 : decode cX12_holders 31 = .ok (.ireturn, 1) := by decide +kernel
theorem dX12_writtenWays_0 : decode cX12_writtenWays 0 = .ok (.iconst 0, 1) := by decide +kernel
theorem dX12_writtenWays_1 : decode cX12_writtenWays 1 = .ok (.istore_n 3, 1) := by decide +kernel
theorem dX12_writtenWays_2 : decode cX12_writtenWays 2 = .ok (.iconst 0, 1) := by decide +kernel
theorem dX12_writtenWays_3 : decode cX12_writtenWays 3 = .ok (.istore 4, 2) := by decide +kernel
theorem dX12_writtenWays_5 : decode cX12_writtenWays 5 = .ok (.iload 4, 2) := by decide +kernel
theorem dX12_writtenWays_7 : decode cX12_writtenWays 7 = .ok (.aload_n 0, 1) := by decide +kernel
theorem dX12_writtenWays_8 : decode cX12_writtenWays 8 = .ok (.getfield 83, 3) := by decide +kernel
theorem dX12_writtenWays_11 : decode cX12_writtenWays 11 = .ok (.aload_n 0, 1) := by decide +kernel
theorem dX12_writtenWays_12 : decode cX12_writtenWays 12 = .ok (.getfield 83, 3) := by decide +kernel
theorem dX12_writtenWays_15 : decode cX12_writtenWays 15 = .ok (.imul, 1) := by decide +kernel
theorem dX12_writtenWays_16 : decode cX12_writtenWays 16 = .ok (.if_icmp .ge 60, 3) := by decide +kernel
theorem dX12_writtenWays_19 : decode cX12_writtenWays 19 = .ok (.iload 4, 2) := by decide +kernel
theorem dX12_writtenWays_21 : decode cX12_writtenWays 21 = .ok (.aload_n 0, 1) := by decide +kernel
theorem dX12_writtenWays_22 : decode cX12_writtenWays 22 = .ok (.getfield 83, 3) := by decide +kernel
theorem dX12_writtenWays_25 : decode cX12_writtenWays 25 = .ok (.idiv, 1) := by decide +kernel
theorem dX12_writtenWays_26 : decode cX12_writtenWays 26 = .ok (.istore 5, 2) := by decide +kernel
theorem dX12_writtenWays_28 : decode cX12_writtenWays 28 = .ok (.iload 4, 2) := by decide +kernel
theorem dX12_writtenWays_30 : decode cX12_writtenWays 30 = .ok (.aload_n 0, 1) := by decide +kernel
theorem dX12_writtenWays_31 : decode cX12_writtenWays 31 = .ok (.getfield 83, 3) := by decide +kernel
theorem dX12_writtenWays_34 : decode cX12_writtenWays 34 = .ok (.irem, 1) := by decide +kernel
theorem dX12_writtenWays_35 : decode cX12_writtenWays 35 = .ok (.istore 6, 2) := by decide +kernel
theorem dX12_writtenWays_37 : decode cX12_writtenWays 37 = .ok (.iload_n 3, 1) := by decide +kernel
theorem dX12_writtenWays_38 : decode cX12_writtenWays 38 = .ok (.aload_n 0, 1) := by decide +kernel
theorem dX12_writtenWays_39 : decode cX12_writtenWays 39 = .ok (.iload_n 1, 1) := by decide +kernel
theorem dX12_writtenWays_40 : decode cX12_writtenWays 40 = .ok (.iload 5, 2) := by decide +kernel
theorem dX12_writtenWays_42 : decode cX12_writtenWays 42 = .ok (.iload 6, 2) := by decide +kernel
theorem dX12_writtenWays_44 : decode cX12_writtenWays 44 = .ok (.invokevirtual 166, 3) := by decide +kernel
theorem dX12_writtenWays_47 : decode cX12_writtenWays 47 = .ok (.ifCond .eq 20, 3) := by decide +kernel
theorem dX12_writtenWays_50 : decode cX12_writtenWays 50 = .ok (.aload_n 0, 1) := by decide +kernel
theorem dX12_writtenWays_51 : decode cX12_writtenWays 51 = .ok (.iload_n 1, 1) := by decide +kernel
theorem dX12_writtenWays_52 : decode cX12_writtenWays 52 = .ok (.iload 5, 2) := by decide +kernel
theorem dX12_writtenWays_54 : decode cX12_writtenWays 54 = .ok (.iload 6, 2) := by decide +kernel
theorem dX12_writtenWays_56 : decode cX12_writtenWays 56 = .ok (.iload_n 2, 1) := by decide +kernel
theorem dX12_writtenWays_57 : decode cX12_writtenWays 57 = .ok (.invokevirtual 105, 3) := by decide +kernel
theorem dX12_writtenWays_60 : decode cX12_writtenWays 60 = .ok (.ifCond .eq 7, 3) := by decide +kernel
theorem dX12_writtenWays_63 : decode cX12_writtenWays 63 = .ok (.iconst 1, 1) := by decide +kernel
theorem dX12_writtenWays_64 : decode cX12_writtenWays 64 = .ok (.goto 4, 3) := by decide +kernel
theorem dX12_writtenWays_67 : decode cX12_writtenWays 67 = .ok (.iconst 0, 1) := by decide +kernel
theorem dX12_writtenWays_68 : decode cX12_writtenWays 68 = .ok (.iadd, 1) := by decide +kernel
theorem dX12_writtenWays_69 : decode cX12_writtenWays 69 = .ok (.istore_n 3, 1) := by decide +kernel
theorem dX12_writtenWays_70 : decode cX12_writtenWays 70 = .ok (.iinc 4 1, 3) := by decide +kernel
theorem dX12_writtenWays_73 : decode cX12_writtenWays 73 = .ok (.goto (-68), 3) := by decide +kernel
theorem dX12_writtenWays_76 : decode cX12_writtenWays 76 = .ok (.iload_n 3, 1) := by decide +kernel
theorem dX12_writtenWays_77 : decode cX12_writtenWays 77 = .ok (.ireturn, 1) := by decide +kernel
theorem dX12_inviteNow_0 : decode cX12_inviteNow 0 = .ok (.aload_n 0, 1) := by decide +kernel
theorem dX12_inviteNow_1 : decode cX12_inviteNow 1 = .ok (.iload_n 1, 1) := by decide +kernel
theorem dX12_inviteNow_2 : decode cX12_inviteNow 2 = .ok (.iconst 0, 1) := by decide +kernel
theorem dX12_inviteNow_3 : decode cX12_inviteNow 3 = .ok (.invokevirtual 169, 3) := by decide +kernel
theorem dX12_inviteNow_6 : decode cX12_inviteNow 6 = .ok (.istore_n 2, 1) := by decide +kernel
theorem dX12_inviteNow_7 : decode cX12_inviteNow 7 = .ok (.iconst (-1), 1) := by decide +kernel
theorem dX12_inviteNow_8 : decode cX12_inviteNow 8 = .ok (.istore_n 3, 1) := by decide +kernel
theorem dX12_inviteNow_9 : decode cX12_inviteNow 9 = .ok (.ldc 141, 2) := by decide +kernel
theorem dX12_inviteNow_11 : decode cX12_inviteNow 11 = .ok (.istore 4, 2) := by decide +kernel
theorem dX12_inviteNow_13 : decode cX12_inviteNow 13 = .ok (.iconst 0, 1) := by decide +kernel
theorem dX12_inviteNow_14 : decode cX12_inviteNow 14 = .ok (.istore 5, 2) := by decide +kernel
theorem dX12_inviteNow_16 : decode cX12_inviteNow 16 = .ok (.iload 5, 2) := by decide +kernel
theorem dX12_inviteNow_18 : decode cX12_inviteNow 18 = .ok (.iconst 1, 1) := by decide +kernel
theorem dX12_inviteNow_19 : decode cX12_inviteNow 19 = .ok (.aload_n 0, 1) := by decide +kernel
theorem dX12_inviteNow_20 : decode cX12_inviteNow 20 = .ok (.getfield 83, 3) := by decide +kernel
theorem dX12_inviteNow_23 : decode cX12_inviteNow 23 = .ok (.ishl, 1) := by decide +kernel
theorem dX12_inviteNow_24 : decode cX12_inviteNow 24 = .ok (.if_icmp .ge 81, 3) := by decide +kernel
theorem dX12_inviteNow_27 : decode cX12_inviteNow 27 = .ok (.iload_n 2, 1) := by decide +kernel
theorem dX12_inviteNow_28 : decode cX12_inviteNow 28 = .ok (.ifCond .le 77, 3) := by decide +kernel
theorem dX12_inviteNow_31 : decode cX12_inviteNow 31 = .ok (.iload 5, 2) := by decide +kernel
theorem dX12_inviteNow_33 : decode cX12_inviteNow 33 = .ok (.iload_n 1, 1) := by decide +kernel
theorem dX12_inviteNow_34 : decode cX12_inviteNow 34 = .ok (.invokestatic 98, 3) := by decide +kernel
theorem dX12_inviteNow_37 : decode cX12_inviteNow 37 = .ok (.ifCond .eq 62, 3) := by decide +kernel
theorem dX12_inviteNow_40 : decode cX12_inviteNow 40 = .ok (.aload_n 0, 1) := by decide +kernel
theorem dX12_inviteNow_41 : decode cX12_inviteNow 41 = .ok (.iload_n 1, 1) := by decide +kernel
theorem dX12_inviteNow_42 : decode cX12_inviteNow 42 = .ok (.iload 5, 2) := by decide +kernel
theorem dX12_inviteNow_44 : decode cX12_inviteNow 44 = .ok (.invokevirtual 172, 3) := by decide +kernel
theorem dX12_inviteNow_47 : decode cX12_inviteNow 47 = .ok (.istore 6, 2) := by decide +kernel
theorem dX12_inviteNow_49 : decode cX12_inviteNow 49 = .ok (.iload 6, 2) := by decide +kernel
theorem dX12_inviteNow_51 : decode cX12_inviteNow 51 = .ok (.iload_n 2, 1) := by decide +kernel
theorem dX12_inviteNow_52 : decode cX12_inviteNow 52 = .ok (.iload 6, 2) := by decide +kernel
theorem dX12_inviteNow_54 : decode cX12_inviteNow 54 = .ok (.isub, 1) := by decide +kernel
theorem dX12_inviteNow_55 : decode cX12_inviteNow 55 = .ok (.if_icmp .le 8, 3) := by decide +kernel
theorem dX12_inviteNow_58 : decode cX12_inviteNow 58 = .ok (.iload 6, 2) := by decide +kernel
theorem dX12_inviteNow_60 : decode cX12_inviteNow 60 = .ok (.goto 7, 3) := by decide +kernel
theorem dX12_inviteNow_63 : decode cX12_inviteNow 63 = .ok (.iload_n 2, 1) := by decide +kernel
theorem dX12_inviteNow_64 : decode cX12_inviteNow 64 = .ok (.iload 6, 2) := by decide +kernel
theorem dX12_inviteNow_66 : decode cX12_inviteNow 66 = .ok (.isub, 1) := by decide +kernel
theorem dX12_inviteNow_67 : decode cX12_inviteNow 67 = .ok (.istore 7, 2) := by decide +kernel
theorem dX12_inviteNow_69 : decode cX12_inviteNow 69 = .ok (.iload 7, 2) := by decide +kernel
theorem dX12_inviteNow_71 : decode cX12_inviteNow 71 = .ok (.iload 4, 2) := by decide +kernel
theorem dX12_inviteNow_73 : decode cX12_inviteNow 73 = .ok (.if_icmp .ge 8, 3) := by decide +kernel
theorem dX12_inviteNow_76 : decode cX12_inviteNow 76 = .ok (.iload 5, 2) := by decide +kernel
theorem dX12_inviteNow_78 : decode cX12_inviteNow 78 = .ok (.goto 4, 3) := by decide +kernel
theorem dX12_inviteNow_81 : decode cX12_inviteNow 81 = .ok (.iload_n 3, 1) := by decide +kernel
theorem dX12_inviteNow_82 : decode cX12_inviteNow 82 = .ok (.istore_n 3, 1) := by decide +kernel
theorem dX12_inviteNow_83 : decode cX12_inviteNow 83 = .ok (.iload 7, 2) := by decide +kernel
theorem dX12_inviteNow_85 : decode cX12_inviteNow 85 = .ok (.iload 4, 2) := by decide +kernel
theorem dX12_inviteNow_87 : decode cX12_inviteNow 87 = .ok (.if_icmp .ge 8, 3) := by decide +kernel
theorem dX12_inviteNow_90 : decode cX12_inviteNow 90 = .ok (.iload 7, 2) := by decide +kernel
theorem dX12_inviteNow_92 : decode cX12_inviteNow 92 = .ok (.goto 5, 3) := by decide +kernel
theorem dX12_inviteNow_95 : decode cX12_inviteNow 95 = .ok (.iload 4, 2) := by decide +kernel
theorem dX12_inviteNow_97 : decode cX12_inviteNow 97 = .ok (.istore 4, 2) := by decide +kernel
theorem dX12_inviteNow_99 : decode cX12_inviteNow 99 = .ok (.iinc 5 1, 3) := by decide +kernel
theorem dX12_inviteNow_102 : decode cX12_inviteNow 102 = .ok (.goto (-86), 3) := by decide +kernel
theorem dX12_inviteNow_105 : decode cX12_inviteNow 105 = .ok (.iload_n 3, 1) := by decide +kernel
theorem dX12_inviteNow_106 : decode cX12_inviteNow 106 = .ok (.ireturn, 1) := by decide +kernel
theorem dX12_invite_0 : decode cX12_invite 0 = .ok (.aload_n 0, 1) := by decide +kernel
theorem dX12_invite_1 : decode cX12_invite 1 = .ok (.iload_n 1, 1) := by decide +kernel
theorem dX12_invite_2 : decode cX12_invite 2 = .ok (.invokevirtual 124, 3) := by decide +kernel
theorem dX12_invite_5 : decode cX12_invite 5 = .ok (.ifCond .eq 11, 3) := by decide +kernel
theorem dX12_invite_8 : decode cX12_invite 8 = .ok (.aload_n 0, 1) := by decide +kernel
theorem dX12_invite_9 : decode cX12_invite 9 = .ok (.iload_n 1, 1) := by decide +kernel
theorem dX12_invite_10 : decode cX12_invite 10 = .ok (.invokevirtual 175, 3) := by decide +kernel
theorem dX12_invite_13 : decode cX12_invite 13 = .ok (.goto 5, 3) := by decide +kernel
theorem dX12_invite_16 : decode cX12_invite 16 = .ok (.bipush (-101), 2) := by decide +kernel
theorem dX12_invite_18 : decode cX12_invite 18 = .ok (.ireturn, 1) := by decide +kernel
theorem dX12_writtenAll_0 : decode cX12_writtenAll 0 = .ok (.iconst 0, 1) := by decide +kernel
theorem dX12_writtenAll_1 : decode cX12_writtenAll 1 = .ok (.istore_n 1, 1) := by decide +kernel
theorem dX12_writtenAll_2 : decode cX12_writtenAll 2 = .ok (.iconst 0, 1) := by decide +kernel
theorem dX12_writtenAll_3 : decode cX12_writtenAll 3 = .ok (.istore_n 2, 1) := by decide +kernel
theorem dX12_writtenAll_4 : decode cX12_writtenAll 4 = .ok (.iload_n 2, 1) := by decide +kernel
theorem dX12_writtenAll_5 : decode cX12_writtenAll 5 = .ok (.aload_n 0, 1) := by decide +kernel
theorem dX12_writtenAll_6 : decode cX12_writtenAll 6 = .ok (.getfield 83, 3) := by decide +kernel
theorem dX12_writtenAll_9 : decode cX12_writtenAll 9 = .ok (.if_icmp .ge 25, 3) := by decide +kernel
theorem dX12_writtenAll_12 : decode cX12_writtenAll 12 = .ok (.iload_n 1, 1) := by decide +kernel
theorem dX12_writtenAll_13 : decode cX12_writtenAll 13 = .ok (.aload_n 0, 1) := by decide +kernel
theorem dX12_writtenAll_14 : decode cX12_writtenAll 14 = .ok (.iload_n 2, 1) := by decide +kernel
theorem dX12_writtenAll_15 : decode cX12_writtenAll 15 = .ok (.invokevirtual 115, 3) := by decide +kernel
theorem dX12_writtenAll_18 : decode cX12_writtenAll 18 = .ok (.ifCond .eq 7, 3) := by decide +kernel
theorem dX12_writtenAll_21 : decode cX12_writtenAll 21 = .ok (.iconst 1, 1) := by decide +kernel
theorem dX12_writtenAll_22 : decode cX12_writtenAll 22 = .ok (.goto 4, 3) := by decide +kernel
theorem dX12_writtenAll_25 : decode cX12_writtenAll 25 = .ok (.iconst 0, 1) := by decide +kernel
theorem dX12_writtenAll_26 : decode cX12_writtenAll 26 = .ok (.iadd, 1) := by decide +kernel
theorem dX12_writtenAll_27 : decode cX12_writtenAll 27 = .ok (.istore_n 1, 1) := by decide +kernel
theorem dX12_writtenAll_28 : decode cX12_writtenAll 28 = .ok (.iinc 2 1, 3) := by decide +kernel
theorem dX12_writtenAll_31 : decode cX12_writtenAll 31 = .ok (.goto (-27), 3) := by decide +kernel
theorem dX12_writtenAll_34 : decode cX12_writtenAll 34 = .ok (.iload_n 1, 1) := by decide +kernel
theorem dX12_writtenAll_35 : decode cX12_writtenAll 35 = .ok (.ireturn, 1) := by decide +kernel
theorem dX12_draw_0 : decode cX12_draw 0 = .ok (.aload_n 0, 1) := by decide +kernel
theorem dX12_draw_1 : decode cX12_draw 1 = .ok (.ldc2_w 178, 3) := by decide +kernel
theorem dX12_draw_4 : decode cX12_draw 4 = .ok (.aload_n 0, 1) := by decide +kernel
theorem dX12_draw_5 : decode cX12_draw 5 = .ok (.getfield 180, 3) := by decide +kernel
theorem dX12_draw_8 : decode cX12_draw 8 = .ok (.lmul, 1) := by decide +kernel
theorem dX12_draw_9 : decode cX12_draw 9 = .ok (.ldc2_w 184, 3) := by decide +kernel
theorem dX12_draw_12 : decode cX12_draw 12 = .ok (.ladd, 1) := by decide +kernel
theorem dX12_draw_13 : decode cX12_draw 13 = .ok (.ldc2_w 186, 3) := by decide +kernel
theorem dX12_draw_16 : decode cX12_draw 16 = .ok (.land, 1) := by decide +kernel
theorem dX12_draw_17 : decode cX12_draw 17 = .ok (.putfield 180, 3) := by decide +kernel
theorem dX12_draw_20 : decode cX12_draw 20 = .ok (.aload_n 0, 1) := by decide +kernel
theorem dX12_draw_21 : decode cX12_draw 21 = .ok (.getfield 180, 3) := by decide +kernel
theorem dX12_draw_24 : decode cX12_draw 24 = .ok (.ldc2_w 188, 3) := by decide +kernel
theorem dX12_draw_27 : decode cX12_draw 27 = .ok (.ldiv, 1) := by decide +kernel
theorem dX12_draw_28 : decode cX12_draw 28 = .ok (.iload_n 1, 1) := by decide +kernel
theorem dX12_draw_29 : decode cX12_draw 29 = .ok (.i2l, 1) := by decide +kernel
theorem dX12_draw_30 : decode cX12_draw 30 = .ok (.lrem, 1) := by decide +kernel
theorem dX12_draw_31 : decode cX12_draw 31 = .ok (.l2i, 1) := by decide +kernel
theorem dX12_draw_32 : decode cX12_draw 32 = .ok (.ireturn, 1) := by decide +kernel
theorem dX12_yearsNow_0 : decode cX12_yearsNow 0 = .ok (.iconst 0, 1) := by decide +kernel
theorem dX12_yearsNow_1 : decode cX12_yearsNow 1 = .ok (.istore 4, 2) := by decide +kernel
theorem dX12_yearsNow_3 : decode cX12_yearsNow 3 = .ok (.iload 4, 2) := by decide +kernel
theorem dX12_yearsNow_5 : decode cX12_yearsNow 5 = .ok (.aload_n 0, 1) := by decide +kernel
theorem dX12_yearsNow_6 : decode cX12_yearsNow 6 = .ok (.getfield 83, 3) := by decide +kernel
theorem dX12_yearsNow_9 : decode cX12_yearsNow 9 = .ok (.if_icmp .ge 23, 3) := by decide +kernel
theorem dX12_yearsNow_12 : decode cX12_yearsNow 12 = .ok (.aload_n 0, 1) := by decide +kernel
theorem dX12_yearsNow_13 : decode cX12_yearsNow 13 = .ok (.getfield 38, 3) := by decide +kernel
theorem dX12_yearsNow_16 : decode cX12_yearsNow 16 = .ok (.iload 4, 2) := by decide +kernel
theorem dX12_yearsNow_18 : decode cX12_yearsNow 18 = .ok (.aload_n 0, 1) := by decide +kernel
theorem dX12_yearsNow_19 : decode cX12_yearsNow 19 = .ok (.getfield 16, 3) := by decide +kernel
theorem dX12_yearsNow_22 : decode cX12_yearsNow 22 = .ok (.iload 4, 2) := by decide +kernel
theorem dX12_yearsNow_24 : decode cX12_yearsNow 24 = .ok (.iaload, 1) := by decide +kernel
end
section
theorem dX12_yearsNow_25 : decode cX12_yearsNow 25 = .ok (.iastore, 1) := by decide +kernel
theorem dX12_yearsNow_26 : decode cX12_yearsNow 26 = .ok (.iinc 4 1, 3) := by decide +kernel
theorem dX12_yearsNow_29 : decode cX12_yearsNow 29 = .ok (.goto (-26), 3) := by decide +kernel
theorem dX12_yearsNow_32 : decode cX12_yearsNow 32 = .ok (.aload_n 0, 1) := by decide +kernel
theorem dX12_yearsNow_33 : decode cX12_yearsNow 33 = .ok (.iload_n 2, 1) := by decide +kernel
theorem dX12_yearsNow_34 : decode cX12_yearsNow 34 = .ok (.i2l, 1) := by decide +kernel
theorem dX12_yearsNow_35 : decode cX12_yearsNow 35 = .ok (.putfield 180, 3) := by decide +kernel
theorem dX12_yearsNow_38 : decode cX12_yearsNow 38 = .ok (.iconst 0, 1) := by decide +kernel
theorem dX12_yearsNow_39 : decode cX12_yearsNow 39 = .ok (.istore 4, 2) := by decide +kernel
theorem dX12_yearsNow_41 : decode cX12_yearsNow 41 = .ok (.iconst 0, 1) := by decide +kernel
theorem dX12_yearsNow_42 : decode cX12_yearsNow 42 = .ok (.istore 5, 2) := by decide +kernel
theorem dX12_yearsNow_44 : decode cX12_yearsNow 44 = .ok (.iload 5, 2) := by decide +kernel
theorem dX12_yearsNow_46 : decode cX12_yearsNow 46 = .ok (.iload_n 1, 1) := by decide +kernel
theorem dX12_yearsNow_47 : decode cX12_yearsNow 47 = .ok (.if_icmp .ge 40, 3) := by decide +kernel
theorem dX12_yearsNow_50 : decode cX12_yearsNow 50 = .ok (.aload_n 0, 1) := by decide +kernel
theorem dX12_yearsNow_51 : decode cX12_yearsNow 51 = .ok (.aload_n 0, 1) := by decide +kernel
theorem dX12_yearsNow_52 : decode cX12_yearsNow 52 = .ok (.getfield 83, 3) := by decide +kernel
theorem dX12_yearsNow_55 : decode cX12_yearsNow 55 = .ok (.invokevirtual 190, 3) := by decide +kernel
theorem dX12_yearsNow_58 : decode cX12_yearsNow 58 = .ok (.istore 6, 2) := by decide +kernel
theorem dX12_yearsNow_60 : decode cX12_yearsNow 60 = .ok (.aload_n 0, 1) := by decide +kernel
theorem dX12_yearsNow_61 : decode cX12_yearsNow 61 = .ok (.getfield 16, 3) := by decide +kernel
theorem dX12_yearsNow_64 : decode cX12_yearsNow 64 = .ok (.iload 6, 2) := by decide +kernel
theorem dX12_yearsNow_66 : decode cX12_yearsNow 66 = .ok (.aload_n 0, 1) := by decide +kernel
theorem dX12_yearsNow_67 : decode cX12_yearsNow 67 = .ok (.iconst 4, 1) := by decide +kernel
theorem dX12_yearsNow_68 : decode cX12_yearsNow 68 = .ok (.invokevirtual 190, 3) := by decide +kernel
theorem dX12_yearsNow_71 : decode cX12_yearsNow 71 = .ok (.iastore, 1) := by decide +kernel
theorem dX12_yearsNow_72 : decode cX12_yearsNow 72 = .ok (.iload 4, 2) := by decide +kernel
theorem dX12_yearsNow_74 : decode cX12_yearsNow 74 = .ok (.aload_n 0, 1) := by decide +kernel
theorem dX12_yearsNow_75 : decode cX12_yearsNow 75 = .ok (.invokevirtual 193, 3) := by decide +kernel
theorem dX12_yearsNow_78 : decode cX12_yearsNow 78 = .ok (.iadd, 1) := by decide +kernel
theorem dX12_yearsNow_79 : decode cX12_yearsNow 79 = .ok (.istore 4, 2) := by decide +kernel
theorem dX12_yearsNow_81 : decode cX12_yearsNow 81 = .ok (.iinc 5 1, 3) := by decide +kernel
theorem dX12_yearsNow_84 : decode cX12_yearsNow 84 = .ok (.goto (-40), 3) := by decide +kernel
theorem dX12_yearsNow_87 : decode cX12_yearsNow 87 = .ok (.aload_n 0, 1) := by decide +kernel
theorem dX12_yearsNow_88 : decode cX12_yearsNow 88 = .ok (.invokevirtual 193, 3) := by decide +kernel
theorem dX12_yearsNow_91 : decode cX12_yearsNow 91 = .ok (.istore 5, 2) := by decide +kernel
theorem dX12_yearsNow_93 : decode cX12_yearsNow 93 = .ok (.iconst 0, 1) := by decide +kernel
theorem dX12_yearsNow_94 : decode cX12_yearsNow 94 = .ok (.istore 6, 2) := by decide +kernel
theorem dX12_yearsNow_96 : decode cX12_yearsNow 96 = .ok (.iload 6, 2) := by decide +kernel
theorem dX12_yearsNow_98 : decode cX12_yearsNow 98 = .ok (.aload_n 0, 1) := by decide +kernel
theorem dX12_yearsNow_99 : decode cX12_yearsNow 99 = .ok (.getfield 83, 3) := by decide +kernel
theorem dX12_yearsNow_102 : decode cX12_yearsNow 102 = .ok (.if_icmp .ge 23, 3) := by decide +kernel
theorem dX12_yearsNow_105 : decode cX12_yearsNow 105 = .ok (.aload_n 0, 1) := by decide +kernel
theorem dX12_yearsNow_106 : decode cX12_yearsNow 106 = .ok (.getfield 16, 3) := by decide +kernel
theorem dX12_yearsNow_109 : decode cX12_yearsNow 109 = .ok (.iload 6, 2) := by decide +kernel
theorem dX12_yearsNow_111 : decode cX12_yearsNow 111 = .ok (.aload_n 0, 1) := by decide +kernel
theorem dX12_yearsNow_112 : decode cX12_yearsNow 112 = .ok (.getfield 38, 3) := by decide +kernel
theorem dX12_yearsNow_115 : decode cX12_yearsNow 115 = .ok (.iload 6, 2) := by decide +kernel
theorem dX12_yearsNow_117 : decode cX12_yearsNow 117 = .ok (.iaload, 1) := by decide +kernel
theorem dX12_yearsNow_118 : decode cX12_yearsNow 118 = .ok (.iastore, 1) := by decide +kernel
theorem dX12_yearsNow_119 : decode cX12_yearsNow 119 = .ok (.iinc 6 1, 3) := by decide +kernel
theorem dX12_yearsNow_122 : decode cX12_yearsNow 122 = .ok (.goto (-26), 3) := by decide +kernel
theorem dX12_yearsNow_125 : decode cX12_yearsNow 125 = .ok (.iload_n 3, 1) := by decide +kernel
theorem dX12_yearsNow_126 : decode cX12_yearsNow 126 = .ok (.ifCond .ne 8, 3) := by decide +kernel
theorem dX12_yearsNow_129 : decode cX12_yearsNow 129 = .ok (.iload 4, 2) := by decide +kernel
theorem dX12_yearsNow_131 : decode cX12_yearsNow 131 = .ok (.goto 18, 3) := by decide +kernel
theorem dX12_yearsNow_134 : decode cX12_yearsNow 134 = .ok (.iload_n 3, 1) := by decide +kernel
theorem dX12_yearsNow_135 : decode cX12_yearsNow 135 = .ok (.iconst 1, 1) := by decide +kernel
theorem dX12_yearsNow_136 : decode cX12_yearsNow 136 = .ok (.if_icmp .ne 8, 3) := by decide +kernel
theorem dX12_yearsNow_139 : decode cX12_yearsNow 139 = .ok (.iload 5, 2) := by decide +kernel
theorem dX12_yearsNow_141 : decode cX12_yearsNow 141 = .ok (.goto 8, 3) := by decide +kernel
theorem dX12_yearsNow_144 : decode cX12_yearsNow 144 = .ok (.aload_n 0, 1) := by decide +kernel
theorem dX12_yearsNow_145 : decode cX12_yearsNow 145 = .ok (.getfield 180, 3) := by decide +kernel
theorem dX12_yearsNow_148 : decode cX12_yearsNow 148 = .ok (.l2i, 1) := by decide +kernel
theorem dX12_yearsNow_149 : decode cX12_yearsNow 149 = .ok (.ireturn, 1) := by decide +kernel
theorem dX12_years_0 : decode cX12_years 0 = .ok (.iload_n 1, 1) := by decide +kernel
theorem dX12_years_1 : decode cX12_years 1 = .ok (.iconst 1, 1) := by decide +kernel
theorem dX12_years_2 : decode cX12_years 2 = .ok (.bipush 60, 2) := by decide +kernel
theorem dX12_years_4 : decode cX12_years 4 = .ok (.invokestatic 59, 3) := by decide +kernel
theorem dX12_years_7 : decode cX12_years 7 = .ok (.ifCond .eq 16, 3) := by decide +kernel
theorem dX12_years_10 : decode cX12_years 10 = .ok (.iload_n 2, 1) := by decide +kernel
theorem dX12_years_11 : decode cX12_years 11 = .ok (.ifCond .lt 12, 3) := by decide +kernel
theorem dX12_years_14 : decode cX12_years 14 = .ok (.iload_n 3, 1) := by decide +kernel
theorem dX12_years_15 : decode cX12_years 15 = .ok (.iconst 0, 1) := by decide +kernel
theorem dX12_years_16 : decode cX12_years 16 = .ok (.iconst 2, 1) := by decide +kernel
theorem dX12_years_17 : decode cX12_years 17 = .ok (.invokestatic 59, 3) := by decide +kernel
theorem dX12_years_20 : decode cX12_years 20 = .ok (.ifCond .ne 6, 3) := by decide +kernel
theorem dX12_years_23 : decode cX12_years 23 = .ok (.bipush (-102), 2) := by decide +kernel
theorem dX12_years_25 : decode cX12_years 25 = .ok (.ireturn, 1) := by decide +kernel
theorem dX12_years_26 : decode cX12_years 26 = .ok (.aload_n 0, 1) := by decide +kernel
theorem dX12_years_27 : decode cX12_years 27 = .ok (.getfield 83, 3) := by decide +kernel
theorem dX12_years_30 : decode cX12_years 30 = .ok (.ifCond .ne 8, 3) := by decide +kernel
theorem dX12_years_33 : decode cX12_years 33 = .ok (.bipush (-103), 2) := by decide +kernel
theorem dX12_years_35 : decode cX12_years 35 = .ok (.goto 10, 3) := by decide +kernel
theorem dX12_years_38 : decode cX12_years 38 = .ok (.aload_n 0, 1) := by decide +kernel
theorem dX12_years_39 : decode cX12_years 39 = .ok (.iload_n 1, 1) := by decide +kernel
theorem dX12_years_40 : decode cX12_years 40 = .ok (.iload_n 2, 1) := by decide +kernel
theorem dX12_years_41 : decode cX12_years 41 = .ok (.iload_n 3, 1) := by decide +kernel
theorem dX12_years_42 : decode cX12_years 42 = .ok (.invokevirtual 196, 3) := by decide +kernel
theorem dX12_years_45 : decode cX12_years 45 = .ok (.ireturn, 1) := by decide +kernel
theorem dX12_image_0 : decode cX12_image 0 = .ok (.aload_n 0, 1) := by decide +kernel
theorem dX12_image_1 : decode cX12_image 1 = .ok (.getfield 83, 3) := by decide +kernel
theorem dX12_image_4 : decode cX12_image 4 = .ok (.ifCond .ne 6, 3) := by decide +kernel
theorem dX12_image_7 : decode cX12_image 7 = .ok (.bipush (-103), 2) := by decide +kernel
theorem dX12_image_9 : decode cX12_image 9 = .ok (.ireturn, 1) := by decide +kernel
theorem dX12_image_10 : decode cX12_image 10 = .ok (.aload_n 0, 1) := by decide +kernel
theorem dX12_image_11 : decode cX12_image 11 = .ok (.iconst 1, 1) := by decide +kernel
theorem dX12_image_12 : decode cX12_image 12 = .ok (.putfield 200, 3) := by decide +kernel
theorem dX12_image_15 : decode cX12_image 15 = .ok (.aload_n 0, 1) := by decide +kernel
theorem dX12_image_16 : decode cX12_image 16 = .ok (.aload_n 0, 1) := by decide +kernel
theorem dX12_image_17 : decode cX12_image 17 = .ok (.getfield 86, 3) := by decide +kernel
theorem dX12_image_20 : decode cX12_image 20 = .ok (.putfield 204, 3) := by decide +kernel
theorem dX12_image_23 : decode cX12_image 23 = .ok (.aload_n 0, 1) := by decide +kernel
theorem dX12_image_24 : decode cX12_image 24 = .ok (.aload_n 0, 1) := by decide +kernel
theorem dX12_image_25 : decode cX12_image 25 = .ok (.getfield 89, 3) := by decide +kernel
theorem dX12_image_28 : decode cX12_image 28 = .ok (.putfield 207, 3) := by decide +kernel
theorem dX12_image_31 : decode cX12_image 31 = .ok (.aload_n 0, 1) := by decide +kernel
theorem dX12_image_32 : decode cX12_image 32 = .ok (.aload_n 0, 1) := by decide +kernel
theorem dX12_image_33 : decode cX12_image 33 = .ok (.getfield 92, 3) := by decide +kernel
theorem dX12_image_36 : decode cX12_image 36 = .ok (.putfield 210, 3) := by decide +kernel
theorem dX12_image_39 : decode cX12_image 39 = .ok (.aload_n 0, 1) := by decide +kernel
theorem dX12_image_40 : decode cX12_image 40 = .ok (.aload_n 0, 1) := by decide +kernel
theorem dX12_image_41 : decode cX12_image 41 = .ok (.getfield 95, 3) := by decide +kernel
theorem dX12_image_44 : decode cX12_image 44 = .ok (.putfield 213, 3) := by decide +kernel
theorem dX12_image_47 : decode cX12_image 47 = .ok (.iconst 0, 1) := by decide +kernel
theorem dX12_image_48 : decode cX12_image 48 = .ok (.istore_n 1, 1) := by decide +kernel
theorem dX12_image_49 : decode cX12_image 49 = .ok (.iload_n 1, 1) := by decide +kernel
theorem dX12_image_50 : decode cX12_image 50 = .ok (.bipush 10, 2) := by decide +kernel
theorem dX12_image_52 : decode cX12_image 52 = .ok (.if_icmp .ge 21, 3) := by decide +kernel
theorem dX12_image_55 : decode cX12_image 55 = .ok (.aload_n 0, 1) := by decide +kernel
theorem dX12_image_56 : decode cX12_image 56 = .ok (.getfield 41, 3) := by decide +kernel
theorem dX12_image_59 : decode cX12_image 59 = .ok (.iload_n 1, 1) := by decide +kernel
theorem dX12_image_60 : decode cX12_image 60 = .ok (.aload_n 0, 1) := by decide +kernel
theorem dX12_image_61 : decode cX12_image 61 = .ok (.getfield 13, 3) := by decide +kernel
theorem dX12_image_64 : decode cX12_image 64 = .ok (.iload_n 1, 1) := by decide +kernel
theorem dX12_image_65 : decode cX12_image 65 = .ok (.iaload, 1) := by decide +kernel
theorem dX12_image_66 : decode cX12_image 66 = .ok (.iastore, 1) := by decide +kernel
theorem dX12_image_67 : decode cX12_image 67 = .ok (.iinc 1 1, 3) := by decide +kernel
theorem dX12_image_70 : decode cX12_image 70 = .ok (.goto (-21), 3) := by decide +kernel
theorem dX12_image_73 : decode cX12_image 73 = .ok (.iconst 0, 1) := by decide +kernel
theorem dX12_image_74 : decode cX12_image 74 = .ok (.istore_n 1, 1) := by decide +kernel
theorem dX12_image_75 : decode cX12_image 75 = .ok (.iload_n 1, 1) := by decide +kernel
theorem dX12_image_76 : decode cX12_image 76 = .ok (.iconst 5, 1) := by decide +kernel
theorem dX12_image_77 : decode cX12_image 77 = .ok (.if_icmp .ge 33, 3) := by decide +kernel
theorem dX12_image_80 : decode cX12_image 80 = .ok (.aload_n 0, 1) := by decide +kernel
theorem dX12_image_81 : decode cX12_image 81 = .ok (.getfield 44, 3) := by decide +kernel
theorem dX12_image_84 : decode cX12_image 84 = .ok (.iload_n 1, 1) := by decide +kernel
theorem dX12_image_85 : decode cX12_image 85 = .ok (.aload_n 0, 1) := by decide +kernel
theorem dX12_image_86 : decode cX12_image 86 = .ok (.getfield 16, 3) := by decide +kernel
theorem dX12_image_89 : decode cX12_image 89 = .ok (.iload_n 1, 1) := by decide +kernel
theorem dX12_image_90 : decode cX12_image 90 = .ok (.iaload, 1) := by decide +kernel
theorem dX12_image_91 : decode cX12_image 91 = .ok (.iastore, 1) := by decide +kernel
theorem dX12_image_92 : decode cX12_image 92 = .ok (.aload_n 0, 1) := by decide +kernel
theorem dX12_image_93 : decode cX12_image 93 = .ok (.getfield 47, 3) := by decide +kernel
theorem dX12_image_96 : decode cX12_image 96 = .ok (.iload_n 1, 1) := by decide +kernel
theorem dX12_image_97 : decode cX12_image 97 = .ok (.aload_n 0, 1) := by decide +kernel
theorem dX12_image_98 : decode cX12_image 98 = .ok (.getfield 19, 3) := by decide +kernel
theorem dX12_image_101 : decode cX12_image 101 = .ok (.iload_n 1, 1) := by decide +kernel
theorem dX12_image_102 : decode cX12_image 102 = .ok (.iaload, 1) := by decide +kernel
theorem dX12_image_103 : decode cX12_image 103 = .ok (.iastore, 1) := by decide +kernel
theorem dX12_image_104 : decode cX12_image 104 = .ok (.iinc 1 1, 3) := by decide +kernel
theorem dX12_image_107 : decode cX12_image 107 = .ok (.goto (-32), 3) := by decide +kernel
theorem dX12_image_110 : decode cX12_image 110 = .ok (.iconst 0, 1) := by decide +kernel
theorem dX12_image_111 : decode cX12_image 111 = .ok (.istore_n 1, 1) := by decide +kernel
theorem dX12_image_112 : decode cX12_image 112 = .ok (.iload_n 1, 1) := by decide +kernel
theorem dX12_image_113 : decode cX12_image 113 = .ok (.bipush 6, 2) := by decide +kernel
theorem dX12_image_115 : decode cX12_image 115 = .ok (.if_icmp .ge 45, 3) := by decide +kernel
theorem dX12_image_118 : decode cX12_image 118 = .ok (.aload_n 0, 1) := by decide +kernel
theorem dX12_image_119 : decode cX12_image 119 = .ok (.getfield 50, 3) := by decide +kernel
theorem dX12_image_122 : decode cX12_image 122 = .ok (.iload_n 1, 1) := by decide +kernel
theorem dX12_image_123 : decode cX12_image 123 = .ok (.aload_n 0, 1) := by decide +kernel
theorem dX12_image_124 : decode cX12_image 124 = .ok (.getfield 22, 3) := by decide +kernel
theorem dX12_image_127 : decode cX12_image 127 = .ok (.iload_n 1, 1) := by decide +kernel
theorem dX12_image_128 : decode cX12_image 128 = .ok (.iaload, 1) := by decide +kernel
theorem dX12_image_129 : decode cX12_image 129 = .ok (.iastore, 1) := by decide +kernel
theorem dX12_image_130 : decode cX12_image 130 = .ok (.aload_n 0, 1) := by decide +kernel
theorem dX12_image_131 : decode cX12_image 131 = .ok (.getfield 53, 3) := by decide +kernel
theorem dX12_image_134 : decode cX12_image 134 = .ok (.iload_n 1, 1) := by decide +kernel
theorem dX12_image_135 : decode cX12_image 135 = .ok (.aload_n 0, 1) := by decide +kernel
theorem dX12_image_136 : decode cX12_image 136 = .ok (.getfield 25, 3) := by decide +kernel
theorem dX12_image_139 : decode cX12_image 139 = .ok (.iload_n 1, 1) := by decide +kernel
theorem dX12_image_140 : decode cX12_image 140 = .ok (.iaload, 1) := by decide +kernel
theorem dX12_image_141 : decode cX12_image 141 = .ok (.iastore, 1) := by decide +kernel
theorem dX12_image_142 : decode cX12_image 142 = .ok (.aload_n 0, 1) := by decide +kernel
theorem dX12_image_143 : decode cX12_image 143 = .ok (.getfield 56, 3) := by decide +kernel
theorem dX12_image_146 : decode cX12_image 146 = .ok (.iload_n 1, 1) := by decide +kernel
theorem dX12_image_147 : decode cX12_image 147 = .ok (.aload_n 0, 1) := by decide +kernel
theorem dX12_image_148 : decode cX12_image 148 = .ok (.getfield 28, 3) := by decide +kernel
theorem dX12_image_151 : decode cX12_image 151 = .ok (.iload_n 1, 1) := by decide +kernel
theorem dX12_image_152 : decode cX12_image 152 = .ok (.iaload, 1) := by decide +kernel
theorem dX12_image_153 : decode cX12_image 153 = .ok (.iastore, 1) := by decide +kernel
theorem dX12_image_154 : decode cX12_image 154 = .ok (.iinc 1 1, 3) := by decide +kernel
theorem dX12_image_157 : decode cX12_image 157 = .ok (.goto (-45), 3) := by decide +kernel
theorem dX12_image_160 : decode cX12_image 160 = .ok (.aload_n 0, 1) := by decide +kernel
theorem dX12_image_161 : decode cX12_image 161 = .ok (.getfield 89, 3) := by decide +kernel
theorem dX12_image_164 : decode cX12_image 164 = .ok (.aload_n 0, 1) := by decide +kernel
theorem dX12_image_165 : decode cX12_image 165 = .ok (.getfield 92, 3) := by decide +kernel
theorem dX12_image_168 : decode cX12_image 168 = .ok (.iadd, 1) := by decide +kernel
theorem dX12_image_169 : decode cX12_image 169 = .ok (.ireturn, 1) := by decide +kernel
theorem dX12_restore_0 : decode cX12_restore 0 = .ok (.aload_n 0, 1) := by decide +kernel
theorem dX12_restore_1 : decode cX12_restore 1 = .ok (.getfield 200, 3) := by decide +kernel
theorem dX12_restore_4 : decode cX12_restore 4 = .ok (.ifCond .eq 14, 3) := by decide +kernel
theorem dX12_restore_7 : decode cX12_restore 7 = .ok (.aload_n 0, 1) := by decide +kernel
theorem dX12_restore_8 : decode cX12_restore 8 = .ok (.getfield 204, 3) := by decide +kernel
theorem dX12_restore_11 : decode cX12_restore 11 = .ok (.aload_n 0, 1) := by decide +kernel
theorem dX12_restore_12 : decode cX12_restore 12 = .ok (.getfield 86, 3) := by decide +kernel
theorem dX12_restore_15 : decode cX12_restore 15 = .ok (.if_icmp .eq 6, 3) := by decide +kernel
theorem dX12_restore_18 : decode cX12_restore 18 = .ok (.bipush (-103), 2) := by decide +kernel
theorem dX12_restore_20 : decode cX12_restore 20 = .ok (.ireturn, 1) := by decide +kernel
theorem dX12_restore_21 : decode cX12_restore 21 = .ok (.aload_n 0, 1) := by decide +kernel
theorem dX12_restore_22 : decode cX12_restore 22 = .ok (.aload_n 0, 1) := by decide +kernel
theorem dX12_restore_23 : decode cX12_restore 23 = .ok (.getfield 207, 3) := by decide +kernel
theorem dX12_restore_26 : decode cX12_restore 26 = .ok (.putfield 89, 3) := by decide +kernel
theorem dX12_restore_29 : decode cX12_restore 29 = .ok (.aload_n 0, 1) := by decide +kernel
theorem dX12_restore_30 : decode cX12_restore 30 = .ok (.aload_n 0, 1) := by decide +kernel
theorem dX12_restore_31 : decode cX12_restore 31 = .ok (.getfield 210, 3) := by decide +kernel
theorem dX12_restore_34 : decode cX12_restore 34 = .ok (.putfield 92, 3) := by decide +kernel
theorem dX12_restore_37 : decode cX12_restore 37 = .ok (.aload_n 0, 1) := by decide +kernel
theorem dX12_restore_38 : decode cX12_restore 38 = .ok (.aload_n 0, 1) := by decide +kernel
theorem dX12_restore_39 : decode cX12_restore 39 = .ok (.getfield 213, 3) := by decide +kernel
theorem dX12_restore_42 : decode cX12_restore 42 = .ok (.putfield 95, 3) := by decide +kernel
theorem dX12_restore_45 : decode cX12_restore 45 = .ok (.iconst 0, 1) := by decide +kernel
theorem dX12_restore_46 : decode cX12_restore 46 = .ok (.istore_n 1, 1) := by decide +kernel
theorem dX12_restore_47 : decode cX12_restore 47 = .ok (.iload_n 1, 1) := by decide +kernel
theorem dX12_restore_48 : decode cX12_restore 48 = .ok (.bipush 10, 2) := by decide +kernel
theorem dX12_restore_50 : decode cX12_restore 50 = .ok (.if_icmp .ge 21, 3) := by decide +kernel
theorem dX12_restore_53 : decode cX12_restore 53 = .ok (.aload_n 0, 1) := by decide +kernel
theorem dX12_restore_54 : decode cX12_restore 54 = .ok (.getfield 13, 3) := by decide +kernel
theorem dX12_restore_57 : decode cX12_restore 57 = .ok (.iload_n 1, 1) := by decide +kernel
theorem dX12_restore_58 : decode cX12_restore 58 = .ok (.aload_n 0, 1) := by decide +kernel
theorem dX12_restore_59 : decode cX12_restore 59 = .ok (.getfield 41, 3) := by decide +kernel
theorem dX12_restore_62 : decode cX12_restore 62 = .ok (.iload_n 1, 1) := by decide +kernel
theorem dX12_restore_63 : decode cX12_restore 63 = .ok (.iaload, 1) := by decide +kernel
theorem dX12_restore_64 : decode cX12_restore 64 = .ok (.iastore, 1) := by decide +kernel
theorem dX12_restore_65 : decode cX12_restore 65 = .ok (.iinc 1 1, 3) := by decide +kernel
theorem dX12_restore_68 : decode cX12_restore 68 = .ok (.goto (-21), 3) := by decide +kernel
theorem dX12_restore_71 : decode cX12_restore 71 = .ok (.iconst 0, 1) := by decide +kernel
theorem dX12_restore_72 : decode cX12_restore 72 = .ok (.istore_n 1, 1) := by decide +kernel
theorem dX12_restore_73 : decode cX12_restore 73 = .ok (.iload_n 1, 1) := by decide +kernel
theorem dX12_restore_74 : decode cX12_restore 74 = .ok (.iconst 5, 1) := by decide +kernel
theorem dX12_restore_75 : decode cX12_restore 75 = .ok (.if_icmp .ge 33, 3) := by decide +kernel
theorem dX12_restore_78 : decode cX12_restore 78 = .ok (.aload_n 0, 1) := by decide +kernel
theorem dX12_restore_79 : decode cX12_restore 79 = .ok (.getfield 16, 3) := by decide +kernel
theorem dX12_restore_82 : decode cX12_restore 82 = .ok (.iload_n 1, 1) := by decide +kernel
theorem dX12_restore_83 : decode cX12_restore 83 = .ok (.aload_n 0, 1) := by decide +kernel
theorem dX12_restore_84 : decode cX12_restore 84 = .ok (.getfield 44, 3) := by decide +kernel
theorem dX12_restore_87 : decode cX12_restore 87 = .ok (.iload_n 1, 1) := by decide +kernel
theorem dX12_restore_88 : decode cX12_restore 88 = .ok (.iaload, 1) := by decide +kernel
theorem dX12_restore_89 : decode cX12_restore 89 = .ok (.iastore, 1) := by decide +kernel
theorem dX12_restore_90 : decode cX12_restore 90 = .ok (.aload_n 0, 1) := by decide +kernel
theorem dX12_restore_91 : decode cX12_restore 91 = .ok (.getfield 19, 3) := by decide +kernel
theorem dX12_restore_94 : decode cX12_restore 94 = .ok (.iload_n 1, 1) := by decide +kernel
theorem dX12_restore_95 : decode cX12_restore 95 = .ok (.aload_n 0, 1) := by decide +kernel
theorem dX12_restore_96 : decode cX12_restore 96 = .ok (.getfield 47, 3) := by decide +kernel
theorem dX12_restore_99 : decode cX12_restore 99 = .ok (.iload_n 1, 1) := by decide +kernel
theorem dX12_restore_100 : decode cX12_restore 100 = .ok (.iaload, 1) := by decide +kernel
theorem dX12_restore_101 : decode cX12_restore 101 = .ok (.iastore, 1) := by decide +kernel
theorem dX12_restore_102 : decode cX12_restore 102 = .ok (.iinc 1 1, 3) := by decide +kernel
theorem dX12_restore_105 : decode cX12_restore 105 = .ok (.goto (-32), 3) := by decide +kernel
theorem dX12_restore_108 : decode cX12_restore 108 = .ok (.iconst 0, 1) := by decide +kernel
theorem dX12_restore_109 : decode cX12_restore 109 = .ok (.istore_n 1, 1) := by decide +kernel
theorem dX12_restore_110 : decode cX12_restore 110 = .ok (.iload_n 1, 1) := by decide +kernel
theorem dX12_restore_111 : decode cX12_restore 111 = .ok (.bipush 6, 2) := by decide +kernel
theorem dX12_restore_113 : decode cX12_restore 113 = .ok (.if_icmp .ge 45, 3) := by decide +kernel
theorem dX12_restore_116 : decode cX12_restore 116 = .ok (.aload_n 0, 1) := by decide +kernel
theorem dX12_restore_117 : decode cX12_restore 117 = .ok (.getfield 22, 3) := by decide +kernel
theorem dX12_restore_120 : decode cX12_restore 120 = .ok (.iload_n 1, 1) := by decide +kernel
theorem dX12_restore_121 : decode cX12_restore 121 = .ok (.aload_n 0, 1) := by decide +kernel
theorem dX12_restore_122 : decode cX12_restore 122 = .ok (.getfield 50, 3) := by decide +kernel
theorem dX12_restore_125 : decode cX12_restore 125 = .ok (.iload_n 1, 1) := by decide +kernel
theorem dX12_restore_126 : decode cX12_restore 126 = .ok (.iaload, 1) := by decide +kernel
theorem dX12_restore_127 : decode cX12_restore 127 = .ok (.iastore, 1) := by decide +kernel
theorem dX12_restore_128 : decode cX12_restore 128 = .ok (.aload_n 0, 1) := by decide +kernel
theorem dX12_restore_129 : decode cX12_restore 129 = .ok (.getfield 25, 3) := by decide +kernel
theorem dX12_restore_132 : decode cX12_restore 132 = .ok (.iload_n 1, 1) := by decide +kernel
theorem dX12_restore_133 : decode cX12_restore 133 = .ok (.aload_n 0, 1) := by decide +kernel
theorem dX12_restore_134 : decode cX12_restore 134 = .ok (.getfield 53, 3) := by decide +kernel
theorem dX12_restore_137 : decode cX12_restore 137 = .ok (.iload_n 1, 1) := by decide +kernel
theorem dX12_restore_138 : decode cX12_restore 138 = .ok (.iaload, 1) := by decide +kernel
theorem dX12_restore_139 : decode cX12_restore 139 = .ok (.iastore, 1) := by decide +kernel
theorem dX12_restore_140 : decode cX12_restore 140 = .ok (.aload_n 0, 1) := by decide +kernel
theorem dX12_restore_141 : decode cX12_restore 141 = .ok (.getfield 28, 3) := by decide +kernel
theorem dX12_restore_144 : decode cX12_restore 144 = .ok (.iload_n 1, 1) := by decide +kernel
theorem dX12_restore_145 : decode cX12_restore 145 = .ok (.aload_n 0, 1) := by decide +kernel
theorem dX12_restore_146 : decode cX12_restore 146 = .ok (.getfield 56, 3) := by decide +kernel
theorem dX12_restore_149 : decode cX12_restore 149 = .ok (.iload_n 1, 1) := by decide +kernel
theorem dX12_restore_150 : decode cX12_restore 150 = .ok (.iaload, 1) := by decide +kernel
theorem dX12_restore_151 : decode cX12_restore 151 = .ok (.iastore, 1) := by decide +kernel
theorem dX12_restore_152 : decode cX12_restore 152 = .ok (.iinc 1 1, 3) := by decide +kernel
theorem dX12_restore_155 : decode cX12_restore 155 = .ok (.goto (-45), 3) := by decide +kernel
theorem dX12_restore_158 : decode cX12_restore 158 = .ok (.aload_n 0, 1) := by decide +kernel
theorem dX12_restore_159 : decode cX12_restore 159 = .ok (.getfield 89, 3) := by decide +kernel
theorem dX12_restore_162 : decode cX12_restore 162 = .ok (.aload_n 0, 1) := by decide +kernel
theorem dX12_restore_163 : decode cX12_restore 163 = .ok (.getfield 92, 3) := by decide +kernel
theorem dX12_restore_166 : decode cX12_restore 166 = .ok (.iadd, 1) := by decide +kernel
theorem dX12_restore_167 : decode cX12_restore 167 = .ok (.ireturn, 1) := by decide +kernel
theorem dX12_pairs_0 : decode cX12_pairs 0 = .ok (.iconst 0, 1) := by decide +kernel
theorem dX12_pairs_1 : decode cX12_pairs 1 = .ok (.istore_n 1, 1) := by decide +kernel
theorem dX12_pairs_2 : decode cX12_pairs 2 = .ok (.iconst 0, 1) := by decide +kernel
theorem dX12_pairs_3 : decode cX12_pairs 3 = .ok (.istore_n 2, 1) := by decide +kernel
theorem dX12_pairs_4 : decode cX12_pairs 4 = .ok (.iload_n 2, 1) := by decide +kernel
theorem dX12_pairs_5 : decode cX12_pairs 5 = .ok (.aload_n 0, 1) := by decide +kernel
theorem dX12_pairs_6 : decode cX12_pairs 6 = .ok (.getfield 83, 3) := by decide +kernel
theorem dX12_pairs_9 : decode cX12_pairs 9 = .ok (.if_icmp .ge 21, 3) := by decide +kernel
theorem dX12_pairs_12 : decode cX12_pairs 12 = .ok (.iload_n 1, 1) := by decide +kernel
theorem dX12_pairs_13 : decode cX12_pairs 13 = .ok (.aload_n 0, 1) := by decide +kernel
theorem dX12_pairs_14 : decode cX12_pairs 14 = .ok (.getfield 19, 3) := by decide +kernel
theorem dX12_pairs_17 : decode cX12_pairs 17 = .ok (.iload_n 2, 1) := by decide +kernel
theorem dX12_pairs_18 : decode cX12_pairs 18 = .ok (.iaload, 1) := by decide +kernel
theorem dX12_pairs_19 : decode cX12_pairs 19 = .ok (.invokestatic 216, 3) := by decide +kernel
theorem dX12_pairs_22 : decode cX12_pairs 22 = .ok (.iadd, 1) := by decide +kernel
theorem dX12_pairs_23 : decode cX12_pairs 23 = .ok (.istore_n 1, 1) := by decide +kernel
theorem dX12_pairs_24 : decode cX12_pairs 24 = .ok (.iinc 2 1, 3) := by decide +kernel
theorem dX12_pairs_27 : decode cX12_pairs 27 = .ok (.goto (-23), 3) := by decide +kernel
theorem dX12_pairs_30 : decode cX12_pairs 30 = .ok (.iload_n 1, 1) := by decide +kernel
theorem dX12_pairs_31 : decode cX12_pairs 31 = .ok (.iconst 2, 1) := by decide +kernel
theorem dX12_pairs_32 : decode cX12_pairs 32 = .ok (.idiv, 1) := by decide +kernel
theorem dX12_pairs_33 : decode cX12_pairs 33 = .ok (.ireturn, 1) := by decide +kernel
theorem dX12_howMany_0 : decode cX12_howMany 0 = .ok (.iload_n 1, 1) := by decide +kernel
theorem dX12_howMany_1 : decode cX12_howMany 1 = .ok (.tableswitch 105 0 9 #[55, 60, 65, 70, 75, 80, 85, 90, 95, 100], 55) := by decide +kernel
theorem dX12_howMany_56 : decode cX12_howMany 56 = .ok (.aload_n 0, 1) := by decide +kernel
theorem dX12_howMany_57 : decode cX12_howMany 57 = .ok (.getfield 83, 3) := by decide +kernel
theorem dX12_howMany_60 : decode cX12_howMany 60 = .ok (.ireturn, 1) := by decide +kernel
theorem dX12_howMany_61 : decode cX12_howMany 61 = .ok (.aload_n 0, 1) := by decide +kernel
theorem dX12_howMany_62 : decode cX12_howMany 62 = .ok (.invokevirtual 193, 3) := by decide +kernel
theorem dX12_howMany_65 : decode cX12_howMany 65 = .ok (.ireturn, 1) := by decide +kernel
theorem dX12_howMany_66 : decode cX12_howMany 66 = .ok (.aload_n 0, 1) := by decide +kernel
theorem dX12_howMany_67 : decode cX12_howMany 67 = .ok (.invokevirtual 219, 3) := by decide +kernel
theorem dX12_howMany_70 : decode cX12_howMany 70 = .ok (.ireturn, 1) := by decide +kernel
theorem dX12_howMany_71 : decode cX12_howMany 71 = .ok (.aload_n 0, 1) := by decide +kernel
theorem dX12_howMany_72 : decode cX12_howMany 72 = .ok (.getfield 89, 3) := by decide +kernel
theorem dX12_howMany_75 : decode cX12_howMany 75 = .ok (.ireturn, 1) := by decide +kernel
theorem dX12_howMany_76 : decode cX12_howMany 76 = .ok (.aload_n 0, 1) := by decide +kernel
theorem dX12_howMany_77 : decode cX12_howMany 77 = .ok (.getfield 92, 3) := by decide +kernel
theorem dX12_howMany_80 : decode cX12_howMany 80 = .ok (.ireturn, 1) := by decide +kernel
theorem dX12_howMany_81 : decode cX12_howMany 81 = .ok (.aload_n 0, 1) := by decide +kernel
theorem dX12_howMany_82 : decode cX12_howMany 82 = .ok (.getfield 95, 3) := by decide +kernel
theorem dX12_howMany_85 : decode cX12_howMany 85 = .ok (.ireturn, 1) := by decide +kernel
theorem dX12_howMany_86 : decode cX12_howMany 86 = .ok (.aload_n 0, 1) := by decide +kernel
theorem dX12_howMany_87 : decode cX12_howMany 87 = .ok (.getfield 63, 3) := by decide +kernel
theorem dX12_howMany_90 : decode cX12_howMany 90 = .ok (.ireturn, 1) := by decide +kernel
theorem dX12_howMany_91 : decode cX12_howMany 91 = .ok (.aload_n 0, 1) := by decide +kernel
theorem dX12_howMany_92 : decode cX12_howMany 92 = .ok (.getfield 86, 3) := by decide +kernel
theorem dX12_howMany_95 : decode cX12_howMany 95 = .ok (.ireturn, 1) := by decide +kernel
theorem dX12_howMany_96 : decode cX12_howMany 96 = .ok (.aload_n 0, 1) := by decide +kernel
theorem dX12_howMany_97 : decode cX12_howMany 97 = .ok (.getfield 148, 3) := by decide +kernel
theorem dX12_howMany_100 : decode cX12_howMany 100 = .ok (.ireturn, 1) := by decide +kernel
theorem dX12_howMany_101 : decode cX12_howMany 101 = .ok (.aload_n 0, 1) := by decide +kernel
theorem dX12_howMany_102 : decode cX12_howMany 102 = .ok (.getfield 160, 3) := by decide +kernel
theorem dX12_howMany_105 : decode cX12_howMany 105 = .ok (.ireturn, 1) := by decide +kernel
theorem dX12_howMany_106 : decode cX12_howMany 106 = .ok (.bipush (-102), 2) := by decide +kernel
theorem dX12_howMany_108 : decode cX12_howMany 108 = .ok (.ireturn, 1) := by decide +kernel
theorem dX12_count_0 : decode cX12_count 0 = .ok (.aload_n 0, 1) := by decide +kernel
theorem dX12_count_1 : decode cX12_count 1 = .ok (.iload_n 1, 1) := by decide +kernel
theorem dX12_count_2 : decode cX12_count 2 = .ok (.invokevirtual 222, 3) := by decide +kernel
theorem dX12_count_5 : decode cX12_count 5 = .ok (.ireturn, 1) := by decide +kernel
theorem dX12_mix_0 : decode cX12_mix 0 = .ok (.aload_n 0, 1) := by decide +kernel
theorem dX12_mix_1 : decode cX12_mix 1 = .ok (.ldc2_w 225, 3) := by decide +kernel
theorem dX12_mix_4 : decode cX12_mix 4 = .ok (.aload_n 0, 1) := by decide +kernel
theorem dX12_mix_5 : decode cX12_mix 5 = .ok (.getfield 227, 3) := by decide +kernel
theorem dX12_mix_8 : decode cX12_mix 8 = .ok (.lmul, 1) := by decide +kernel
theorem dX12_mix_9 : decode cX12_mix 9 = .ok (.lload_n 1, 1) := by decide +kernel
theorem dX12_mix_10 : decode cX12_mix 10 = .ok (.ladd, 1) := by decide +kernel
theorem dX12_mix_11 : decode cX12_mix 11 = .ok (.putfield 227, 3) := by decide +kernel
theorem dX12_mix_14 : decode cX12_mix 14 = .ok (.return_, 1) := by decide +kernel
theorem dX12_digest_0 : decode cX12_digest 0 = .ok (.aload_n 0, 1) := by decide +kernel
theorem dX12_digest_1 : decode cX12_digest 1 = .ok (.ldc2_w 230, 3) := by decide +kernel
theorem dX12_digest_4 : decode cX12_digest 4 = .ok (.putfield 227, 3) := by decide +kernel
theorem dX12_digest_7 : decode cX12_digest 7 = .ok (.iconst 0, 1) := by decide +kernel
theorem dX12_digest_8 : decode cX12_digest 8 = .ok (.istore_n 1, 1) := by decide +kernel
theorem dX12_digest_9 : decode cX12_digest 9 = .ok (.iload_n 1, 1) := by decide +kernel
theorem dX12_digest_10 : decode cX12_digest 10 = .ok (.aload_n 0, 1) := by decide +kernel
theorem dX12_digest_11 : decode cX12_digest 11 = .ok (.getfield 83, 3) := by decide +kernel
theorem dX12_digest_14 : decode cX12_digest 14 = .ok (.if_icmp .ge 66, 3) := by decide +kernel
theorem dX12_digest_17 : decode cX12_digest 17 = .ok (.iconst 0, 1) := by decide +kernel
theorem dX12_digest_18 : decode cX12_digest 18 = .ok (.istore_n 2, 1) := by decide +kernel
theorem dX12_digest_19 : decode cX12_digest 19 = .ok (.iload_n 2, 1) := by decide +kernel
theorem dX12_digest_20 : decode cX12_digest 20 = .ok (.bipush 9, 2) := by decide +kernel
theorem dX12_digest_22 : decode cX12_digest 22 = .ok (.if_icmp .ge 20, 3) := by decide +kernel
theorem dX12_digest_25 : decode cX12_digest 25 = .ok (.aload_n 0, 1) := by decide +kernel
theorem dX12_digest_26 : decode cX12_digest 26 = .ok (.aload_n 0, 1) := by decide +kernel
theorem dX12_digest_27 : decode cX12_digest 27 = .ok (.iload_n 1, 1) := by decide +kernel
theorem dX12_digest_28 : decode cX12_digest 28 = .ok (.iload_n 2, 1) := by decide +kernel
theorem dX12_digest_29 : decode cX12_digest 29 = .ok (.invokevirtual 127, 3) := by decide +kernel
theorem dX12_digest_32 : decode cX12_digest 32 = .ok (.i2l, 1) := by decide +kernel
theorem dX12_digest_33 : decode cX12_digest 33 = .ok (.invokevirtual 232, 3) := by decide +kernel
theorem dX12_digest_36 : decode cX12_digest 36 = .ok (.iinc 2 1, 3) := by decide +kernel
theorem dX12_digest_39 : decode cX12_digest 39 = .ok (.goto (-20), 3) := by decide +kernel
theorem dX12_digest_42 : decode cX12_digest 42 = .ok (.aload_n 0, 1) := by decide +kernel
theorem dX12_digest_43 : decode cX12_digest 43 = .ok (.aload_n 0, 1) := by decide +kernel
theorem dX12_digest_44 : decode cX12_digest 44 = .ok (.iload_n 1, 1) := by decide +kernel
theorem dX12_digest_45 : decode cX12_digest 45 = .ok (.iconst 0, 1) := by decide +kernel
theorem dX12_digest_46 : decode cX12_digest 46 = .ok (.invokevirtual 169, 3) := by decide +kernel
theorem dX12_digest_49 : decode cX12_digest 49 = .ok (.i2l, 1) := by decide +kernel
theorem dX12_digest_50 : decode cX12_digest 50 = .ok (.invokevirtual 232, 3) := by decide +kernel
theorem dX12_digest_53 : decode cX12_digest 53 = .ok (.aload_n 0, 1) := by decide +kernel
theorem dX12_digest_54 : decode cX12_digest 54 = .ok (.aload_n 0, 1) := by decide +kernel
theorem dX12_digest_55 : decode cX12_digest 55 = .ok (.iload_n 1, 1) := by decide +kernel
theorem dX12_digest_56 : decode cX12_digest 56 = .ok (.iconst 1, 1) := by decide +kernel
theorem dX12_digest_57 : decode cX12_digest 57 = .ok (.invokevirtual 169, 3) := by decide +kernel
theorem dX12_digest_60 : decode cX12_digest 60 = .ok (.i2l, 1) := by decide +kernel
theorem dX12_digest_61 : decode cX12_digest 61 = .ok (.invokevirtual 232, 3) := by decide +kernel
theorem dX12_digest_64 : decode cX12_digest 64 = .ok (.aload_n 0, 1) := by decide +kernel
theorem dX12_digest_65 : decode cX12_digest 65 = .ok (.aload_n 0, 1) := by decide +kernel
theorem dX12_digest_66 : decode cX12_digest 66 = .ok (.iload_n 1, 1) := by decide +kernel
theorem dX12_digest_67 : decode cX12_digest 67 = .ok (.invokevirtual 175, 3) := by decide +kernel
theorem dX12_digest_70 : decode cX12_digest 70 = .ok (.i2l, 1) := by decide +kernel
theorem dX12_digest_71 : decode cX12_digest 71 = .ok (.invokevirtual 232, 3) := by decide +kernel
theorem dX12_digest_74 : decode cX12_digest 74 = .ok (.iinc 1 1, 3) := by decide +kernel
theorem dX12_digest_77 : decode cX12_digest 77 = .ok (.goto (-68), 3) := by decide +kernel
theorem dX12_digest_80 : decode cX12_digest 80 = .ok (.iconst 0, 1) := by decide +kernel
theorem dX12_digest_81 : decode cX12_digest 81 = .ok (.istore_n 1, 1) := by decide +kernel
theorem dX12_digest_82 : decode cX12_digest 82 = .ok (.iload_n 1, 1) := by decide +kernel
theorem dX12_digest_83 : decode cX12_digest 83 = .ok (.aload_n 0, 1) := by decide +kernel
theorem dX12_digest_84 : decode cX12_digest 84 = .ok (.getfield 63, 3) := by decide +kernel
theorem dX12_digest_87 : decode cX12_digest 87 = .ok (.if_icmp .ge 20, 3) := by decide +kernel
theorem dX12_digest_90 : decode cX12_digest 90 = .ok (.aload_n 0, 1) := by decide +kernel
theorem dX12_digest_91 : decode cX12_digest 91 = .ok (.aload_n 0, 1) := by decide +kernel
theorem dX12_digest_92 : decode cX12_digest 92 = .ok (.getfield 31, 3) := by decide +kernel
theorem dX12_digest_95 : decode cX12_digest 95 = .ok (.iload_n 1, 1) := by decide +kernel
theorem dX12_digest_96 : decode cX12_digest 96 = .ok (.baload, 1) := by decide +kernel
theorem dX12_digest_97 : decode cX12_digest 97 = .ok (.i2l, 1) := by decide +kernel
theorem dX12_digest_98 : decode cX12_digest 98 = .ok (.invokevirtual 232, 3) := by decide +kernel
theorem dX12_digest_101 : decode cX12_digest 101 = .ok (.iinc 1 1, 3) := by decide +kernel
theorem dX12_digest_104 : decode cX12_digest 104 = .ok (.goto (-22), 3) := by decide +kernel
theorem dX12_digest_107 : decode cX12_digest 107 = .ok (.iconst 0, 1) := by decide +kernel
theorem dX12_digest_108 : decode cX12_digest 108 = .ok (.istore_n 1, 1) := by decide +kernel
theorem dX12_digest_109 : decode cX12_digest 109 = .ok (.iload_n 1, 1) := by decide +kernel
theorem dX12_digest_110 : decode cX12_digest 110 = .ok (.bipush 10, 2) := by decide +kernel
theorem dX12_digest_112 : decode cX12_digest 112 = .ok (.if_icmp .ge 19, 3) := by decide +kernel
theorem dX12_digest_115 : decode cX12_digest 115 = .ok (.aload_n 0, 1) := by decide +kernel
theorem dX12_digest_116 : decode cX12_digest 116 = .ok (.aload_n 0, 1) := by decide +kernel
theorem dX12_digest_117 : decode cX12_digest 117 = .ok (.iload_n 1, 1) := by decide +kernel
theorem dX12_digest_118 : decode cX12_digest 118 = .ok (.invokevirtual 222, 3) := by decide +kernel
theorem dX12_digest_121 : decode cX12_digest 121 = .ok (.i2l, 1) := by decide +kernel
theorem dX12_digest_122 : decode cX12_digest 122 = .ok (.invokevirtual 232, 3) := by decide +kernel
theorem dX12_digest_125 : decode cX12_digest 125 = .ok (.iinc 1 1, 3) := by decide +kernel
theorem dX12_digest_128 : decode cX12_digest 128 = .ok (.goto (-19), 3) := by decide +kernel
theorem dX12_digest_131 : decode cX12_digest 131 = .ok (.aload_n 0, 1) := by decide +kernel
theorem dX12_digest_132 : decode cX12_digest 132 = .ok (.getfield 227, 3) := by decide +kernel
theorem dX12_digest_135 : decode cX12_digest 135 = .ok (.lreturn, 1) := by decide +kernel
theorem dJ11_isValidCodePoint_9a6ad_0 : decode cJ11_isValidCodePoint_9a6ad 0 = .ok (.iload_n 0, 1) := by decide +kernel
theorem dJ11_isValidCodePoint_9a6ad_1 : decode cJ11_isValidCodePoint_9a6ad 1 = .ok (.bipush 16, 2) := by decide +kernel
theorem dJ11_isValidCodePoint_9a6ad_3 : decode cJ11_isValidCodePoint_9a6ad 3 = .ok (.iushr, 1) := by decide +kernel
theorem dJ11_isValidCodePoint_9a6ad_4 : decode cJ11_isValidCodePoint_9a6ad 4 = .ok (.istore_n 1, 1) := by decide +kernel
theorem dJ11_isValidCodePoint_9a6ad_5 : decode cJ11_isValidCodePoint_9a6ad 5 = .ok (.iload_n 1, 1) := by decide +kernel
theorem dJ11_isValidCodePoint_9a6ad_6 : decode cJ11_isValidCodePoint_9a6ad 6 = .ok (.bipush 17, 2) := by decide +kernel
theorem dJ11_isValidCodePoint_9a6ad_8 : decode cJ11_isValidCodePoint_9a6ad 8 = .ok (.if_icmp .ge 7, 3) := by decide +kernel
theorem dJ11_isValidCodePoint_9a6ad_11 : decode cJ11_isValidCodePoint_9a6ad 11 = .ok (.iconst 1, 1) := by decide +kernel
theorem dJ11_isValidCodePoint_9a6ad_12 : decode cJ11_isValidCodePoint_9a6ad 12 = .ok (.goto 4, 3) := by decide +kernel
theorem dJ11_isValidCodePoint_9a6ad_15 : decode cJ11_isValidCodePoint_9a6ad 15 = .ok (.iconst 0, 1) := by decide +kernel
theorem dJ11_isValidCodePoint_9a6ad_16 : decode cJ11_isValidCodePoint_9a6ad 16 = .ok (.ireturn, 1) := by decide +kernel
theorem dJ11_highSurrogate_5068e_0 : decode cJ11_highSurrogate_5068e 0 = .ok (.iload_n 0, 1) := by decide +kernel
theorem dJ11_highSurrogate_5068e_1 : decode cJ11_highSurrogate_5068e 1 = .ok (.bipush 10, 2) := by decide +kernel
theorem dJ11_highSurrogate_5068e_3 : decode cJ11_highSurrogate_5068e 3 = .ok (.iushr, 1) := by decide +kernel
theorem dJ11_highSurrogate_5068e_4 : decode cJ11_highSurrogate_5068e 4 = .ok (.ldc 110, 2) := by decide +kernel
theorem dJ11_highSurrogate_5068e_6 : decode cJ11_highSurrogate_5068e 6 = .ok (.iadd, 1) := by decide +kernel
theorem dJ11_highSurrogate_5068e_7 : decode cJ11_highSurrogate_5068e 7 = .ok (.i2c, 1) := by decide +kernel
theorem dJ11_highSurrogate_5068e_8 : decode cJ11_highSurrogate_5068e 8 = .ok (.ireturn, 1) := by decide +kernel
theorem dJ11_lowSurrogate_5068e_0 : decode cJ11_lowSurrogate_5068e 0 = .ok (.iload_n 0, 1) := by decide +kernel
theorem dJ11_lowSurrogate_5068e_1 : decode cJ11_lowSurrogate_5068e 1 = .ok (.sipush 1023, 3) := by decide +kernel
theorem dJ11_lowSurrogate_5068e_4 : decode cJ11_lowSurrogate_5068e 4 = .ok (.iand, 1) := by decide +kernel
theorem dJ11_lowSurrogate_5068e_5 : decode cJ11_lowSurrogate_5068e 5 = .ok (.ldc 76, 2) := by decide +kernel
theorem dJ11_lowSurrogate_5068e_7 : decode cJ11_lowSurrogate_5068e 7 = .ok (.iadd, 1) := by decide +kernel
theorem dJ11_lowSurrogate_5068e_8 : decode cJ11_lowSurrogate_5068e 8 = .ok (.i2c, 1) := by decide +kernel
theorem dJ11_lowSurrogate_5068e_9 : decode cJ11_lowSurrogate_5068e 9 = .ok (.ireturn, 1) := by decide +kernel
theorem dJ6_bitCount_0f7a4_0 : decode cJ6_bitCount_0f7a4 0 = .ok (.iload_n 0, 1) := by decide +kernel
theorem dJ6_bitCount_0f7a4_1 : decode cJ6_bitCount_0f7a4 1 = .ok (.iload_n 0, 1) := by decide +kernel
theorem dJ6_bitCount_0f7a4_2 : decode cJ6_bitCount_0f7a4 2 = .ok (.iconst 1, 1) := by decide +kernel
theorem dJ6_bitCount_0f7a4_3 : decode cJ6_bitCount_0f7a4 3 = .ok (.iushr, 1) := by decide +kernel
theorem dJ6_bitCount_0f7a4_4 : decode cJ6_bitCount_0f7a4 4 = .ok (.ldc_w 265, 3) := by decide +kernel
theorem dJ6_bitCount_0f7a4_7 : decode cJ6_bitCount_0f7a4 7 = .ok (.iand, 1) := by decide +kernel
theorem dJ6_bitCount_0f7a4_8 : decode cJ6_bitCount_0f7a4 8 = .ok (.isub, 1) := by decide +kernel
theorem dJ6_bitCount_0f7a4_9 : decode cJ6_bitCount_0f7a4 9 = .ok (.istore_n 0, 1) := by decide +kernel
theorem dJ6_bitCount_0f7a4_10 : decode cJ6_bitCount_0f7a4 10 = .ok (.iload_n 0, 1) := by decide +kernel
theorem dJ6_bitCount_0f7a4_11 : decode cJ6_bitCount_0f7a4 11 = .ok (.ldc_w 266, 3) := by decide +kernel
theorem dJ6_bitCount_0f7a4_14 : decode cJ6_bitCount_0f7a4 14 = .ok (.iand, 1) := by decide +kernel
theorem dJ6_bitCount_0f7a4_15 : decode cJ6_bitCount_0f7a4 15 = .ok (.iload_n 0, 1) := by decide +kernel
theorem dJ6_bitCount_0f7a4_16 : decode cJ6_bitCount_0f7a4 16 = .ok (.iconst 2, 1) := by decide +kernel
theorem dJ6_bitCount_0f7a4_17 : decode cJ6_bitCount_0f7a4 17 = .ok (.iushr, 1) := by decide +kernel
theorem dJ6_bitCount_0f7a4_18 : decode cJ6_bitCount_0f7a4 18 = .ok (.ldc_w 266, 3) := by decide +kernel
theorem dJ6_bitCount_0f7a4_21 : decode cJ6_bitCount_0f7a4 21 = .ok (.iand, 1) := by decide +kernel
theorem dJ6_bitCount_0f7a4_22 : decode cJ6_bitCount_0f7a4 22 = .ok (.iadd, 1) := by decide +kernel
theorem dJ6_bitCount_0f7a4_23 : decode cJ6_bitCount_0f7a4 23 = .ok (.istore_n 0, 1) := by decide +kernel
theorem dJ6_bitCount_0f7a4_24 : decode cJ6_bitCount_0f7a4 24 = .ok (.iload_n 0, 1) := by decide +kernel
theorem dJ6_bitCount_0f7a4_25 : decode cJ6_bitCount_0f7a4 25 = .ok (.iload_n 0, 1) := by decide +kernel
theorem dJ6_bitCount_0f7a4_26 : decode cJ6_bitCount_0f7a4 26 = .ok (.iconst 4, 1) := by decide +kernel
theorem dJ6_bitCount_0f7a4_27 : decode cJ6_bitCount_0f7a4 27 = .ok (.iushr, 1) := by decide +kernel
theorem dJ6_bitCount_0f7a4_28 : decode cJ6_bitCount_0f7a4 28 = .ok (.iadd, 1) := by decide +kernel
theorem dJ6_bitCount_0f7a4_29 : decode cJ6_bitCount_0f7a4 29 = .ok (.ldc_w 267, 3) := by decide +kernel
theorem dJ6_bitCount_0f7a4_32 : decode cJ6_bitCount_0f7a4 32 = .ok (.iand, 1) := by decide +kernel
theorem dJ6_bitCount_0f7a4_33 : decode cJ6_bitCount_0f7a4 33 = .ok (.istore_n 0, 1) := by decide +kernel
theorem dJ6_bitCount_0f7a4_34 : decode cJ6_bitCount_0f7a4 34 = .ok (.iload_n 0, 1) := by decide +kernel
theorem dJ6_bitCount_0f7a4_35 : decode cJ6_bitCount_0f7a4 35 = .ok (.iload_n 0, 1) := by decide +kernel
theorem dJ6_bitCount_0f7a4_36 : decode cJ6_bitCount_0f7a4 36 = .ok (.bipush 8, 2) := by decide +kernel
theorem dJ6_bitCount_0f7a4_38 : decode cJ6_bitCount_0f7a4 38 = .ok (.iushr, 1) := by decide +kernel
theorem dJ6_bitCount_0f7a4_39 : decode cJ6_bitCount_0f7a4 39 = .ok (.iadd, 1) := by decide +kernel
theorem dJ6_bitCount_0f7a4_40 : decode cJ6_bitCount_0f7a4 40 = .ok (.istore_n 0, 1) := by decide +kernel
theorem dJ6_bitCount_0f7a4_41 : decode cJ6_bitCount_0f7a4 41 = .ok (.iload_n 0, 1) := by decide +kernel
theorem dJ6_bitCount_0f7a4_42 : decode cJ6_bitCount_0f7a4 42 = .ok (.iload_n 0, 1) := by decide +kernel
theorem dJ6_bitCount_0f7a4_43 : decode cJ6_bitCount_0f7a4 43 = .ok (.bipush 16, 2) := by decide +kernel
theorem dJ6_bitCount_0f7a4_45 : decode cJ6_bitCount_0f7a4 45 = .ok (.iushr, 1) := by decide +kernel
theorem dJ6_bitCount_0f7a4_46 : decode cJ6_bitCount_0f7a4 46 = .ok (.iadd, 1) := by decide +kernel
theorem dJ6_bitCount_0f7a4_47 : decode cJ6_bitCount_0f7a4 47 = .ok (.istore_n 0, 1) := by decide +kernel
theorem dJ6_bitCount_0f7a4_48 : decode cJ6_bitCount_0f7a4 48 = .ok (.iload_n 0, 1) := by decide +kernel
theorem dJ6_bitCount_0f7a4_49 : decode cJ6_bitCount_0f7a4 49 = .ok (.bipush 63, 2) := by decide +kernel
theorem dJ6_bitCount_0f7a4_51 : decode cJ6_bitCount_0f7a4 51 = .ok (.iand, 1) := by decide +kernel
theorem dJ6_bitCount_0f7a4_52 : decode cJ6_bitCount_0f7a4 52 = .ok (.ireturn, 1) := by decide +kernel
theorem dJ9_max_7cf53_0 : decode cJ9_max_7cf53 0 = .ok (.iload_n 0, 1) := by decide +kernel
theorem dJ9_max_7cf53_1 : decode cJ9_max_7cf53 1 = .ok (.iload_n 1, 1) := by decide +kernel
theorem dJ9_max_7cf53_2 : decode cJ9_max_7cf53 2 = .ok (.if_icmp .lt 7, 3) := by decide +kernel
theorem dJ9_max_7cf53_5 : decode cJ9_max_7cf53 5 = .ok (.iload_n 0, 1) := by decide +kernel
theorem dJ9_max_7cf53_6 : decode cJ9_max_7cf53 6 = .ok (.goto 4, 3) := by decide +kernel
theorem dJ9_max_7cf53_9 : decode cJ9_max_7cf53 9 = .ok (.iload_n 1, 1) := by decide +kernel
theorem dJ9_max_7cf53_10 : decode cJ9_max_7cf53 10 = .ok (.ireturn, 1) := by decide +kernel
theorem dJ9_min_7cf53_0 : decode cJ9_min_7cf53 0 = .ok (.iload_n 0, 1) := by decide +kernel
theorem dJ9_min_7cf53_1 : decode cJ9_min_7cf53 1 = .ok (.iload_n 1, 1) := by decide +kernel
theorem dJ9_min_7cf53_2 : decode cJ9_min_7cf53 2 = .ok (.if_icmp .gt 7, 3) := by decide +kernel
theorem dJ9_min_7cf53_5 : decode cJ9_min_7cf53 5 = .ok (.iload_n 0, 1) := by decide +kernel
theorem dJ9_min_7cf53_6 : decode cJ9_min_7cf53 6 = .ok (.goto 4, 3) := by decide +kernel
theorem dJ9_min_7cf53_9 : decode cJ9_min_7cf53 9 = .ok (.iload_n 1, 1) := by decide +kernel
theorem dJ9_min_7cf53_10 : decode cJ9_min_7cf53 10 = .ok (.ireturn, 1) := by decide +kernel
theorem dJ0_length_8abf5_0 : decode cJ0_length_8abf5 0 = .ok (.aload_n 0, 1) := by decide +kernel
theorem dJ0_length_8abf5_1 : decode cJ0_length_8abf5 1 = .ok (.getfield 9, 3) := by decide +kernel
theorem dJ0_length_8abf5_4 : decode cJ0_length_8abf5 4 = .ok (.arraylength, 1) := by decide +kernel
theorem dJ0_length_8abf5_5 : decode cJ0_length_8abf5 5 = .ok (.aload_n 0, 1) := by decide +kernel
theorem dJ0_length_8abf5_6 : decode cJ0_length_8abf5 6 = .ok (.invokevirtual 335, 3) := by decide +kernel
theorem dJ0_length_8abf5_9 : decode cJ0_length_8abf5 9 = .ok (.ishr, 1) := by decide +kernel
theorem dJ0_length_8abf5_10 : decode cJ0_length_8abf5 10 = .ok (.ireturn, 1) := by decide +kernel
theorem dJ0_indexOf_0f7a4_0 : decode cJ0_indexOf_0f7a4 0 = .ok (.aload_n 0, 1) := by decide +kernel
theorem dJ0_indexOf_0f7a4_1 : decode cJ0_indexOf_0f7a4 1 = .ok (.iload_n 1, 1) := by decide +kernel
theorem dJ0_indexOf_0f7a4_2 : decode cJ0_indexOf_0f7a4 2 = .ok (.iconst 0, 1) := by decide +kernel
theorem dJ0_indexOf_0f7a4_3 : decode cJ0_indexOf_0f7a4 3 = .ok (.invokevirtual 633, 3) := by decide +kernel
theorem dJ0_indexOf_0f7a4_6 : decode cJ0_indexOf_0f7a4 6 = .ok (.ireturn, 1) := by decide +kernel
theorem dJ0_indexOf_7cf53_0 : decode cJ0_indexOf_7cf53 0 = .ok (.aload_n 0, 1) := by decide +kernel
theorem dJ0_indexOf_7cf53_1 : decode cJ0_indexOf_7cf53 1 = .ok (.invokevirtual 492, 3) := by decide +kernel
theorem dJ0_indexOf_7cf53_4 : decode cJ0_indexOf_7cf53 4 = .ok (.ifCond .eq 19, 3) := by decide +kernel
theorem dJ0_indexOf_7cf53_7 : decode cJ0_indexOf_7cf53 7 = .ok (.aload_n 0, 1) := by decide +kernel
theorem dJ0_indexOf_7cf53_8 : decode cJ0_indexOf_7cf53 8 = .ok (.getfield 9, 3) := by decide +kernel
theorem dJ0_indexOf_7cf53_11 : decode cJ0_indexOf_7cf53 11 = .ok (.iload_n 1, 1) := by decide +kernel
theorem dJ0_indexOf_7cf53_12 : decode cJ0_indexOf_7cf53 12 = .ok (.iload_n 2, 1) := by decide +kernel
theorem dJ0_indexOf_7cf53_13 : decode cJ0_indexOf_7cf53 13 = .ok (.aload_n 0, 1) := by decide +kernel
theorem dJ0_indexOf_7cf53_14 : decode cJ0_indexOf_7cf53 14 = .ok (.invokevirtual 505, 3) := by decide +kernel
theorem dJ0_indexOf_7cf53_17 : decode cJ0_indexOf_7cf53 17 = .ok (.invokestatic 637, 3) := by decide +kernel
theorem dJ0_indexOf_7cf53_20 : decode cJ0_indexOf_7cf53 20 = .ok (.goto 16, 3) := by decide +kernel
theorem dJ0_indexOf_7cf53_23 : decode cJ0_indexOf_7cf53 23 = .ok (.aload_n 0, 1) := by decide +kernel
theorem dJ0_indexOf_7cf53_24 : decode cJ0_indexOf_7cf53 24 = .ok (.getfield 9, 3) := by decide +kernel
theorem dJ0_indexOf_7cf53_27 : decode cJ0_indexOf_7cf53 27 = .ok (.iload_n 1, 1) := by decide +kernel
theorem dJ0_indexOf_7cf53_28 : decode cJ0_indexOf_7cf53 28 = .ok (.iload_n 2, 1) := by decide +kernel
theorem dJ0_indexOf_7cf53_29 : decode cJ0_indexOf_7cf53 29 = .ok (.aload_n 0, 1) := by decide +kernel
theorem dJ0_indexOf_7cf53_30 : decode cJ0_indexOf_7cf53 30 = .ok (.invokevirtual 505, 3) := by decide +kernel
theorem dJ0_indexOf_7cf53_33 : decode cJ0_indexOf_7cf53 33 = .ok (.invokestatic 640, 3) := by decide +kernel
theorem dJ0_indexOf_7cf53_36 : decode cJ0_indexOf_7cf53 36 = .ok (.ireturn, 1) := by decide +kernel
theorem dJ0_coder_7d493_0 : decode cJ0_coder_7d493 0 = .ok (.getstatic 38, 3) := by decide +kernel
theorem dJ0_coder_7d493_3 : decode cJ0_coder_7d493 3 = .ok (.ifCond .eq 10, 3) := by decide +kernel
theorem dJ0_coder_7d493_6 : decode cJ0_coder_7d493 6 = .ok (.aload_n 0, 1) := by decide +kernel
theorem dJ0_coder_7d493_7 : decode cJ0_coder_7d493 7 = .ok (.getfield 15, 3) := by decide +kernel
theorem dJ0_coder_7d493_10 : decode cJ0_coder_7d493 10 = .ok (.goto 4, 3) := by decide +kernel
theorem dJ0_coder_7d493_13 : decode cJ0_coder_7d493 13 = .ok (.iconst 1, 1) := by decide +kernel
theorem dJ0_coder_7d493_14 : decode cJ0_coder_7d493 14 = .ok (.ireturn, 1) := by decide +kernel
theorem dJ0_isLatin1_aae02_0 : decode cJ0_isLatin1_aae02 0 = .ok (.getstatic 38, 3) := by decide +kernel
theorem dJ0_isLatin1_aae02_3 : decode cJ0_isLatin1_aae02 3 = .ok (.ifCond .eq 14, 3) := by decide +kernel
theorem dJ0_isLatin1_aae02_6 : decode cJ0_isLatin1_aae02 6 = .ok (.aload_n 0, 1) := by decide +kernel
theorem dJ0_isLatin1_aae02_7 : decode cJ0_isLatin1_aae02 7 = .ok (.getfield 15, 3) := by decide +kernel
theorem dJ0_isLatin1_aae02_10 : decode cJ0_isLatin1_aae02 10 = .ok (.ifCond .ne 7, 3) := by decide +kernel
theorem dJ0_isLatin1_aae02_13 : decode cJ0_isLatin1_aae02 13 = .ok (.iconst 1, 1) := by decide +kernel
theorem dJ0_isLatin1_aae02_14 : decode cJ0_isLatin1_aae02 14 = .ok (.goto 4, 3) := by decide +kernel
theorem dJ0_isLatin1_aae02_17 : decode cJ0_isLatin1_aae02 17 = .ok (.iconst 0, 1) := by decide +kernel
theorem dJ0_isLatin1_aae02_18 : decode cJ0_isLatin1_aae02 18 = .ok (.ireturn, 1) := by decide +kernel
theorem dJ0_checkBoundsBeginEnd_23922_0 : decode cJ0_checkBoundsBeginEnd_23922 0 = .ok (.iload_n 0, 1) := by decide +kernel
theorem dJ0_checkBoundsBeginEnd_23922_1 : decode cJ0_checkBoundsBeginEnd_23922 1 = .ok (.iload_n 1, 1) := by decide +kernel
theorem dJ0_checkBoundsBeginEnd_23922_2 : decode cJ0_checkBoundsBeginEnd_23922 2 = .ok (.iload_n 2, 1) := by decide +kernel
theorem dJ0_checkBoundsBeginEnd_23922_3 : decode cJ0_checkBoundsBeginEnd_23922 3 = .ok (.getstatic 1053, 3) := by decide +kernel
theorem dJ0_checkBoundsBeginEnd_23922_6 : decode cJ0_checkBoundsBeginEnd_23922 6 = .ok (.invokestatic 1062, 3) := by decide +kernel
theorem dJ0_checkBoundsBeginEnd_23922_9 : decode cJ0_checkBoundsBeginEnd_23922 9 = .ok (.pop, 1) := by decide +kernel
theorem dJ0_checkBoundsBeginEnd_23922_10 : decode cJ0_checkBoundsBeginEnd_23922 10 = .ok (.return_, 1) := by decide +kernel
theorem dJ1_canEncode_9a6ad_0 : decode cJ1_canEncode_9a6ad 0 = .ok (.iload_n 0, 1) := by decide +kernel
theorem dJ1_canEncode_9a6ad_1 : decode cJ1_canEncode_9a6ad 1 = .ok (.ifCond .lt 14, 3) := by decide +kernel
theorem dJ1_canEncode_9a6ad_4 : decode cJ1_canEncode_9a6ad 4 = .ok (.iload_n 0, 1) := by decide +kernel
theorem dJ1_canEncode_9a6ad_5 : decode cJ1_canEncode_9a6ad 5 = .ok (.sipush 255, 3) := by decide +kernel
theorem dJ1_canEncode_9a6ad_8 : decode cJ1_canEncode_9a6ad 8 = .ok (.if_icmp .gt 7, 3) := by decide +kernel
theorem dJ1_canEncode_9a6ad_11 : decode cJ1_canEncode_9a6ad 11 = .ok (.iconst 1, 1) := by decide +kernel
theorem dJ1_canEncode_9a6ad_12 : decode cJ1_canEncode_9a6ad 12 = .ok (.goto 4, 3) := by decide +kernel
theorem dJ1_canEncode_9a6ad_15 : decode cJ1_canEncode_9a6ad 15 = .ok (.iconst 0, 1) := by decide +kernel
theorem dJ1_canEncode_9a6ad_16 : decode cJ1_canEncode_9a6ad 16 = .ok (.ireturn, 1) := by decide +kernel
theorem dJ1_indexOf_4cfef_0 : decode cJ1_indexOf_4cfef 0 = .ok (.iload_n 1, 1) := by decide +kernel
theorem dJ1_indexOf_4cfef_1 : decode cJ1_indexOf_4cfef 1 = .ok (.invokestatic 88, 3) := by decide +kernel
theorem dJ1_indexOf_4cfef_4 : decode cJ1_indexOf_4cfef 4 = .ok (.ifCond .ne 5, 3) := by decide +kernel
theorem dJ1_indexOf_4cfef_7 : decode cJ1_indexOf_4cfef 7 = .ok (.iconst (-1), 1) := by decide +kernel
theorem dJ1_indexOf_4cfef_8 : decode cJ1_indexOf_4cfef 8 = .ok (.ireturn, 1) := by decide +kernel
theorem dJ1_indexOf_4cfef_9 : decode cJ1_indexOf_4cfef 9 = .ok (.iload_n 2, 1) := by decide +kernel
theorem dJ1_indexOf_4cfef_10 : decode cJ1_indexOf_4cfef 10 = .ok (.iconst 0, 1) := by decide +kernel
theorem dJ1_indexOf_4cfef_11 : decode cJ1_indexOf_4cfef 11 = .ok (.invokestatic 92, 3) := by decide +kernel
theorem dJ1_indexOf_4cfef_14 : decode cJ1_indexOf_4cfef 14 = .ok (.istore_n 2, 1) := by decide +kernel
theorem dJ1_indexOf_4cfef_15 : decode cJ1_indexOf_4cfef 15 = .ok (.iload_n 3, 1) := by decide +kernel
theorem dJ1_indexOf_4cfef_16 : decode cJ1_indexOf_4cfef 16 = .ok (.aload_n 0, 1) := by decide +kernel
theorem dJ1_indexOf_4cfef_17 : decode cJ1_indexOf_4cfef 17 = .ok (.arraylength, 1) := by decide +kernel
theorem dJ1_indexOf_4cfef_18 : decode cJ1_indexOf_4cfef 18 = .ok (.invokestatic 38, 3) := by decide +kernel
theorem dJ1_indexOf_4cfef_21 : decode cJ1_indexOf_4cfef 21 = .ok (.istore_n 3, 1) := by decide +kernel
theorem dJ1_indexOf_4cfef_22 : decode cJ1_indexOf_4cfef 22 = .ok (.iload_n 2, 1) := by decide +kernel
theorem dJ1_indexOf_4cfef_23 : decode cJ1_indexOf_4cfef 23 = .ok (.iload_n 3, 1) := by decide +kernel
theorem dJ1_indexOf_4cfef_24 : decode cJ1_indexOf_4cfef 24 = .ok (.if_icmp .lt 5, 3) := by decide +kernel
theorem dJ1_indexOf_4cfef_27 : decode cJ1_indexOf_4cfef 27 = .ok (.iconst (-1), 1) := by decide +kernel
theorem dJ1_indexOf_4cfef_28 : decode cJ1_indexOf_4cfef 28 = .ok (.ireturn, 1) := by decide +kernel
theorem dJ1_indexOf_4cfef_29 : decode cJ1_indexOf_4cfef 29 = .ok (.aload_n 0, 1) := by decide +kernel
theorem dJ1_indexOf_4cfef_30 : decode cJ1_indexOf_4cfef 30 = .ok (.iload_n 1, 1) := by decide +kernel
theorem dJ1_indexOf_4cfef_31 : decode cJ1_indexOf_4cfef 31 = .ok (.iload_n 2, 1) := by decide +kernel
theorem dJ1_indexOf_4cfef_32 : decode cJ1_indexOf_4cfef 32 = .ok (.iload_n 3, 1) := by decide +kernel
theorem dJ1_indexOf_4cfef_33 : decode cJ1_indexOf_4cfef 33 = .ok (.invokestatic 95, 3) := by decide +kernel
theorem dJ1_indexOf_4cfef_36 : decode cJ1_indexOf_4cfef 36 = .ok (.ireturn, 1) := by decide +kernel
theorem dJ1_indexOfChar_4cfef_0 : decode cJ1_indexOfChar_4cfef 0 = .ok (.iload_n 1, 1) := by decide +kernel
theorem dJ1_indexOfChar_4cfef_1 : decode cJ1_indexOfChar_4cfef 1 = .ok (.i2b, 1) := by decide +kernel
theorem dJ1_indexOfChar_4cfef_2 : decode cJ1_indexOfChar_4cfef 2 = .ok (.istore 4, 2) := by decide +kernel
theorem dJ1_indexOfChar_4cfef_4 : decode cJ1_indexOfChar_4cfef 4 = .ok (.iload_n 2, 1) := by decide +kernel
theorem dJ1_indexOfChar_4cfef_5 : decode cJ1_indexOfChar_4cfef 5 = .ok (.istore 5, 2) := by decide +kernel
theorem dJ1_indexOfChar_4cfef_7 : decode cJ1_indexOfChar_4cfef 7 = .ok (.iload 5, 2) := by decide +kernel
theorem dJ1_indexOfChar_4cfef_9 : decode cJ1_indexOfChar_4cfef 9 = .ok (.iload_n 3, 1) := by decide +kernel
theorem dJ1_indexOfChar_4cfef_10 : decode cJ1_indexOfChar_4cfef 10 = .ok (.if_icmp .ge 21, 3) := by decide +kernel
theorem dJ1_indexOfChar_4cfef_13 : decode cJ1_indexOfChar_4cfef 13 = .ok (.aload_n 0, 1) := by decide +kernel
theorem dJ1_indexOfChar_4cfef_14 : decode cJ1_indexOfChar_4cfef 14 = .ok (.iload 5, 2) := by decide +kernel
theorem dJ1_indexOfChar_4cfef_16 : decode cJ1_indexOfChar_4cfef 16 = .ok (.baload, 1) := by decide +kernel
theorem dJ1_indexOfChar_4cfef_17 : decode cJ1_indexOfChar_4cfef 17 = .ok (.iload 4, 2) := by decide +kernel
theorem dJ1_indexOfChar_4cfef_19 : decode cJ1_indexOfChar_4cfef 19 = .ok (.if_icmp .ne 6, 3) := by decide +kernel
theorem dJ1_indexOfChar_4cfef_22 : decode cJ1_indexOfChar_4cfef 22 = .ok (.iload 5, 2) := by decide +kernel
theorem dJ1_indexOfChar_4cfef_24 : decode cJ1_indexOfChar_4cfef 24 = .ok (.ireturn, 1) := by decide +kernel
theorem dJ1_indexOfChar_4cfef_25 : decode cJ1_indexOfChar_4cfef 25 = .ok (.iinc 5 1, 3) := by decide +kernel
theorem dJ1_indexOfChar_4cfef_28 : decode cJ1_indexOfChar_4cfef 28 = .ok (.goto (-21), 3) := by decide +kernel
theorem dJ1_indexOfChar_4cfef_31 : decode cJ1_indexOfChar_4cfef 31 = .ok (.iconst (-1), 1) := by decide +kernel
theorem dJ1_indexOfChar_4cfef_32 : decode cJ1_indexOfChar_4cfef 32 = .ok (.ireturn, 1) := by decide +kernel
theorem dJ2_getChar_3b067_0 : decode cJ2_getChar_3b067 0 = .ok (.getstatic 44, 3) := by decide +kernel
theorem dJ2_getChar_3b067_3 : decode cJ2_getChar_3b067 3 = .ok (.ifCond .ne 25, 3) := by decide +kernel
theorem dJ2_getChar_3b067_6 : decode cJ2_getChar_3b067 6 = .ok (.iload_n 1, 1) := by decide +kernel
theorem dJ2_getChar_3b067_7 : decode cJ2_getChar_3b067 7 = .ok (.ifCond .lt 11, 3) := by decide +kernel
theorem dJ2_getChar_3b067_10 : decode cJ2_getChar_3b067 10 = .ok (.iload_n 1, 1) := by decide +kernel
theorem dJ2_getChar_3b067_11 : decode cJ2_getChar_3b067 11 = .ok (.aload_n 0, 1) := by decide +kernel
theorem dJ2_getChar_3b067_12 : decode cJ2_getChar_3b067 12 = .ok (.invokestatic 48, 3) := by decide +kernel
theorem dJ2_getChar_3b067_15 : decode cJ2_getChar_3b067 15 = .ok (.if_icmp .lt 13, 3) := by decide +kernel
theorem dJ2_getChar_3b067_18 : decode cJ2_getChar_3b067 18 = .ok (.new 52, 3) := by decide +kernel
theorem dJ2_getChar_3b067_21 : decode cJ2_getChar_3b067 21 = .ok (.dup, 1) := by decide +kernel
theorem dJ2_getChar_3b067_22 : decode cJ2_getChar_3b067 22 = .ok (.ldc 54, 2) := by decide +kernel
theorem dJ2_getChar_3b067_24 : decode cJ2_getChar_3b067 24 = .ok (.invokespecial 56, 3) := by decide +kernel
theorem dJ2_getChar_3b067_27 : decode cJ2_getChar_3b067 27 = .ok (.athrow, 1) := by decide +kernel
theorem dJ2_getChar_3b067_28 : decode cJ2_getChar_3b067 28 = .ok (.iload_n 1, 1) := by decide +kernel
theorem dJ2_getChar_3b067_29 : decode cJ2_getChar_3b067 29 = .ok (.iconst 1, 1) := by decide +kernel
theorem dJ2_getChar_3b067_30 : decode cJ2_getChar_3b067 30 = .ok (.ishl, 1) := by decide +kernel
theorem dJ2_getChar_3b067_31 : decode cJ2_getChar_3b067 31 = .ok (.istore_n 1, 1) := by decide +kernel
theorem dJ2_getChar_3b067_32 : decode cJ2_getChar_3b067 32 = .ok (.aload_n 0, 1) := by decide +kernel
theorem dJ2_getChar_3b067_33 : decode cJ2_getChar_3b067 33 = .ok (.iload_n 1, 1) := by decide +kernel
theorem dJ2_getChar_3b067_34 : decode cJ2_getChar_3b067 34 = .ok (.iinc 1 1, 3) := by decide +kernel
theorem dJ2_getChar_3b067_37 : decode cJ2_getChar_3b067 37 = .ok (.baload, 1) := by decide +kernel
theorem dJ2_getChar_3b067_38 : decode cJ2_getChar_3b067 38 = .ok (.sipush 255, 3) := by decide +kernel
theorem dJ2_getChar_3b067_41 : decode cJ2_getChar_3b067 41 = .ok (.iand, 1) := by decide +kernel
theorem dJ2_getChar_3b067_42 : decode cJ2_getChar_3b067 42 = .ok (.getstatic 59, 3) := by decide +kernel
theorem dJ2_getChar_3b067_45 : decode cJ2_getChar_3b067 45 = .ok (.ishl, 1) := by decide +kernel
theorem dJ2_getChar_3b067_46 : decode cJ2_getChar_3b067 46 = .ok (.aload_n 0, 1) := by decide +kernel
theorem dJ2_getChar_3b067_47 : decode cJ2_getChar_3b067 47 = .ok (.iload_n 1, 1) := by decide +kernel
theorem dJ2_getChar_3b067_48 : decode cJ2_getChar_3b067 48 = .ok (.baload, 1) := by decide +kernel
theorem dJ2_getChar_3b067_49 : decode cJ2_getChar_3b067 49 = .ok (.sipush 255, 3) := by decide +kernel
theorem dJ2_getChar_3b067_52 : decode cJ2_getChar_3b067 52 = .ok (.iand, 1) := by decide +kernel
theorem dJ2_getChar_3b067_53 : decode cJ2_getChar_3b067 53 = .ok (.getstatic 63, 3) := by decide +kernel
theorem dJ2_getChar_3b067_56 : decode cJ2_getChar_3b067 56 = .ok (.ishl, 1) := by decide +kernel
theorem dJ2_getChar_3b067_57 : decode cJ2_getChar_3b067 57 = .ok (.ior, 1) := by decide +kernel
theorem dJ2_getChar_3b067_58 : decode cJ2_getChar_3b067 58 = .ok (.i2c, 1) := by decide +kernel
theorem dJ2_getChar_3b067_59 : decode cJ2_getChar_3b067 59 = .ok (.ireturn, 1) := by decide +kernel
theorem dJ2_length_9d52b_0 : decode cJ2_length_9d52b 0 = .ok (.aload_n 0, 1) := by decide +kernel
theorem dJ2_length_9d52b_1 : decode cJ2_length_9d52b 1 = .ok (.arraylength, 1) := by decide +kernel
theorem dJ2_length_9d52b_2 : decode cJ2_length_9d52b 2 = .ok (.iconst 1, 1) := by decide +kernel
theorem dJ2_length_9d52b_3 : decode cJ2_length_9d52b 3 = .ok (.ishr, 1) := by decide +kernel
theorem dJ2_length_9d52b_4 : decode cJ2_length_9d52b 4 = .ok (.ireturn, 1) := by decide +kernel
theorem dJ2_indexOf_4cfef_0 : decode cJ2_indexOf_4cfef 0 = .ok (.iload_n 2, 1) := by decide +kernel
theorem dJ2_indexOf_4cfef_1 : decode cJ2_indexOf_4cfef 1 = .ok (.iconst 0, 1) := by decide +kernel
theorem dJ2_indexOf_4cfef_2 : decode cJ2_indexOf_4cfef 2 = .ok (.invokestatic 224, 3) := by decide +kernel
theorem dJ2_indexOf_4cfef_5 : decode cJ2_indexOf_4cfef 5 = .ok (.istore_n 2, 1) := by decide +kernel
theorem dJ2_indexOf_4cfef_6 : decode cJ2_indexOf_4cfef 6 = .ok (.iload_n 3, 1) := by decide +kernel
theorem dJ2_indexOf_4cfef_7 : decode cJ2_indexOf_4cfef 7 = .ok (.aload_n 0, 1) := by decide +kernel
theorem dJ2_indexOf_4cfef_8 : decode cJ2_indexOf_4cfef 8 = .ok (.arraylength, 1) := by decide +kernel
theorem dJ2_indexOf_4cfef_9 : decode cJ2_indexOf_4cfef 9 = .ok (.iconst 1, 1) := by decide +kernel
theorem dJ2_indexOf_4cfef_10 : decode cJ2_indexOf_4cfef 10 = .ok (.ishr, 1) := by decide +kernel
theorem dJ2_indexOf_4cfef_11 : decode cJ2_indexOf_4cfef 11 = .ok (.invokestatic 183, 3) := by decide +kernel
theorem dJ2_indexOf_4cfef_14 : decode cJ2_indexOf_4cfef 14 = .ok (.istore_n 3, 1) := by decide +kernel
theorem dJ2_indexOf_4cfef_15 : decode cJ2_indexOf_4cfef 15 = .ok (.iload_n 2, 1) := by decide +kernel
theorem dJ2_indexOf_4cfef_16 : decode cJ2_indexOf_4cfef 16 = .ok (.iload_n 3, 1) := by decide +kernel
theorem dJ2_indexOf_4cfef_17 : decode cJ2_indexOf_4cfef 17 = .ok (.if_icmp .lt 5, 3) := by decide +kernel
theorem dJ2_indexOf_4cfef_20 : decode cJ2_indexOf_4cfef 20 = .ok (.iconst (-1), 1) := by decide +kernel
theorem dJ2_indexOf_4cfef_21 : decode cJ2_indexOf_4cfef 21 = .ok (.ireturn, 1) := by decide +kernel
theorem dJ2_indexOf_4cfef_22 : decode cJ2_indexOf_4cfef 22 = .ok (.iload_n 1, 1) := by decide +kernel
theorem dJ2_indexOf_4cfef_23 : decode cJ2_indexOf_4cfef 23 = .ok (.ldc 227, 2) := by decide +kernel
theorem dJ2_indexOf_4cfef_25 : decode cJ2_indexOf_4cfef 25 = .ok (.if_icmp .ge 11, 3) := by decide +kernel
theorem dJ2_indexOf_4cfef_28 : decode cJ2_indexOf_4cfef 28 = .ok (.aload_n 0, 1) := by decide +kernel
theorem dJ2_indexOf_4cfef_29 : decode cJ2_indexOf_4cfef 29 = .ok (.iload_n 1, 1) := by decide +kernel
theorem dJ2_indexOf_4cfef_30 : decode cJ2_indexOf_4cfef 30 = .ok (.iload_n 2, 1) := by decide +kernel
theorem dJ2_indexOf_4cfef_31 : decode cJ2_indexOf_4cfef 31 = .ok (.iload_n 3, 1) := by decide +kernel
theorem dJ2_indexOf_4cfef_32 : decode cJ2_indexOf_4cfef 32 = .ok (.invokestatic 228, 3) := by decide +kernel
theorem dJ2_indexOf_4cfef_35 : decode cJ2_indexOf_4cfef 35 = .ok (.ireturn, 1) := by decide +kernel
theorem dJ2_indexOf_4cfef_36 : decode cJ2_indexOf_4cfef 36 = .ok (.aload_n 0, 1) := by decide +kernel
theorem dJ2_indexOf_4cfef_37 : decode cJ2_indexOf_4cfef 37 = .ok (.iload_n 1, 1) := by decide +kernel
theorem dJ2_indexOf_4cfef_38 : decode cJ2_indexOf_4cfef 38 = .ok (.iload_n 2, 1) := by decide +kernel
theorem dJ2_indexOf_4cfef_39 : decode cJ2_indexOf_4cfef 39 = .ok (.iload_n 3, 1) := by decide +kernel
theorem dJ2_indexOf_4cfef_40 : decode cJ2_indexOf_4cfef 40 = .ok (.invokestatic 232, 3) := by decide +kernel
theorem dJ2_indexOf_4cfef_43 : decode cJ2_indexOf_4cfef 43 = .ok (.ireturn, 1) := by decide +kernel
theorem dJ2_indexOfChar_4cfef_0 : decode cJ2_indexOfChar_4cfef 0 = .ok (.iload_n 2, 1) := by decide +kernel
theorem dJ2_indexOfChar_4cfef_1 : decode cJ2_indexOfChar_4cfef 1 = .ok (.iload_n 3, 1) := by decide +kernel
theorem dJ2_indexOfChar_4cfef_2 : decode cJ2_indexOfChar_4cfef 2 = .ok (.aload_n 0, 1) := by decide +kernel
theorem dJ2_indexOfChar_4cfef_3 : decode cJ2_indexOfChar_4cfef 3 = .ok (.invokestatic 96, 3) := by decide +kernel
theorem dJ2_indexOfChar_4cfef_6 : decode cJ2_indexOfChar_4cfef 6 = .ok (.aload_n 0, 1) := by decide +kernel
theorem dJ2_indexOfChar_4cfef_7 : decode cJ2_indexOfChar_4cfef 7 = .ok (.iload_n 1, 1) := by decide +kernel
theorem dJ2_indexOfChar_4cfef_8 : decode cJ2_indexOfChar_4cfef 8 = .ok (.iload_n 2, 1) := by decide +kernel
theorem dJ2_indexOfChar_4cfef_9 : decode cJ2_indexOfChar_4cfef 9 = .ok (.iload_n 3, 1) := by decide +kernel
theorem dJ2_indexOfChar_4cfef_10 : decode cJ2_indexOfChar_4cfef 10 = .ok (.invokestatic 244, 3) := by decide +kernel
theorem dJ2_indexOfChar_4cfef_13 : decode cJ2_indexOfChar_4cfef 13 = .ok (.ireturn, 1) := by decide +kernel
theorem dJ2_indexOfCharUnsafe_4cfef_0 : decode cJ2_indexOfCharUnsafe_4cfef 0 = .ok (.iload_n 2, 1) := by decide +kernel
theorem dJ2_indexOfCharUnsafe_4cfef_1 : decode cJ2_indexOfCharUnsafe_4cfef 1 = .ok (.istore 4, 2) := by decide +kernel
theorem dJ2_indexOfCharUnsafe_4cfef_3 : decode cJ2_indexOfCharUnsafe_4cfef 3 = .ok (.iload 4, 2) := by decide +kernel
theorem dJ2_indexOfCharUnsafe_4cfef_5 : decode cJ2_indexOfCharUnsafe_4cfef 5 = .ok (.iload_n 3, 1) := by decide +kernel
theorem dJ2_indexOfCharUnsafe_4cfef_6 : decode cJ2_indexOfCharUnsafe_4cfef 6 = .ok (.if_icmp .ge 22, 3) := by decide +kernel
theorem dJ2_indexOfCharUnsafe_4cfef_9 : decode cJ2_indexOfCharUnsafe_4cfef 9 = .ok (.aload_n 0, 1) := by decide +kernel
theorem dJ2_indexOfCharUnsafe_4cfef_10 : decode cJ2_indexOfCharUnsafe_4cfef 10 = .ok (.iload 4, 2) := by decide +kernel
theorem dJ2_indexOfCharUnsafe_4cfef_12 : decode cJ2_indexOfCharUnsafe_4cfef 12 = .ok (.invokestatic 71, 3) := by decide +kernel
theorem dJ2_indexOfCharUnsafe_4cfef_15 : decode cJ2_indexOfCharUnsafe_4cfef 15 = .ok (.iload_n 1, 1) := by decide +kernel
theorem dJ2_indexOfCharUnsafe_4cfef_16 : decode cJ2_indexOfCharUnsafe_4cfef 16 = .ok (.if_icmp .ne 6, 3) := by decide +kernel
theorem dJ2_indexOfCharUnsafe_4cfef_19 : decode cJ2_indexOfCharUnsafe_4cfef 19 = .ok (.iload 4, 2) := by decide +kernel
theorem dJ2_indexOfCharUnsafe_4cfef_21 : decode cJ2_indexOfCharUnsafe_4cfef 21 = .ok (.ireturn, 1) := by decide +kernel
theorem dJ2_indexOfCharUnsafe_4cfef_22 : decode cJ2_indexOfCharUnsafe_4cfef 22 = .ok (.iinc 4 1, 3) := by decide +kernel
theorem dJ2_indexOfCharUnsafe_4cfef_25 : decode cJ2_indexOfCharUnsafe_4cfef 25 = .ok (.goto (-22), 3) := by decide +kernel
theorem dJ2_indexOfCharUnsafe_4cfef_28 : decode cJ2_indexOfCharUnsafe_4cfef 28 = .ok (.iconst (-1), 1) := by decide +kernel
theorem dJ2_indexOfCharUnsafe_4cfef_29 : decode cJ2_indexOfCharUnsafe_4cfef 29 = .ok (.ireturn, 1) := by decide +kernel
theorem dJ2_indexOfSupplementary_4cfef_0 : decode cJ2_indexOfSupplementary_4cfef 0 = .ok (.iload_n 1, 1) := by decide +kernel
theorem dJ2_indexOfSupplementary_4cfef_1 : decode cJ2_indexOfSupplementary_4cfef 1 = .ok (.invokestatic 164, 3) := by decide +kernel
theorem dJ2_indexOfSupplementary_4cfef_4 : decode cJ2_indexOfSupplementary_4cfef 4 = .ok (.ifCond .eq 65, 3) := by decide +kernel
theorem dJ2_indexOfSupplementary_4cfef_7 : decode cJ2_indexOfSupplementary_4cfef 7 = .ok (.iload_n 1, 1) := by decide +kernel
theorem dJ2_indexOfSupplementary_4cfef_8 : decode cJ2_indexOfSupplementary_4cfef 8 = .ok (.invokestatic 157, 3) := by decide +kernel
theorem dJ2_indexOfSupplementary_4cfef_11 : decode cJ2_indexOfSupplementary_4cfef 11 = .ok (.istore 4, 2) := by decide +kernel
theorem dJ2_indexOfSupplementary_4cfef_13 : decode cJ2_indexOfSupplementary_4cfef 13 = .ok (.iload_n 1, 1) := by decide +kernel
theorem dJ2_indexOfSupplementary_4cfef_14 : decode cJ2_indexOfSupplementary_4cfef 14 = .ok (.invokestatic 161, 3) := by decide +kernel
theorem dJ2_indexOfSupplementary_4cfef_17 : decode cJ2_indexOfSupplementary_4cfef 17 = .ok (.istore 5, 2) := by decide +kernel
theorem dJ2_indexOfSupplementary_4cfef_19 : decode cJ2_indexOfSupplementary_4cfef 19 = .ok (.iload_n 2, 1) := by decide +kernel
theorem dJ2_indexOfSupplementary_4cfef_20 : decode cJ2_indexOfSupplementary_4cfef 20 = .ok (.iload_n 3, 1) := by decide +kernel
theorem dJ2_indexOfSupplementary_4cfef_21 : decode cJ2_indexOfSupplementary_4cfef 21 = .ok (.aload_n 0, 1) := by decide +kernel
theorem dJ2_indexOfSupplementary_4cfef_22 : decode cJ2_indexOfSupplementary_4cfef 22 = .ok (.invokestatic 96, 3) := by decide +kernel
theorem dJ2_indexOfSupplementary_4cfef_25 : decode cJ2_indexOfSupplementary_4cfef 25 = .ok (.iload_n 2, 1) := by decide +kernel
theorem dJ2_indexOfSupplementary_4cfef_26 : decode cJ2_indexOfSupplementary_4cfef 26 = .ok (.istore 6, 2) := by decide +kernel
theorem dJ2_indexOfSupplementary_4cfef_28 : decode cJ2_indexOfSupplementary_4cfef 28 = .ok (.iload 6, 2) := by decide +kernel
theorem dJ2_indexOfSupplementary_4cfef_30 : decode cJ2_indexOfSupplementary_4cfef 30 = .ok (.iload_n 3, 1) := by decide +kernel
theorem dJ2_indexOfSupplementary_4cfef_31 : decode cJ2_indexOfSupplementary_4cfef 31 = .ok (.iconst 1, 1) := by decide +kernel
theorem dJ2_indexOfSupplementary_4cfef_32 : decode cJ2_indexOfSupplementary_4cfef 32 = .ok (.isub, 1) := by decide +kernel
theorem dJ2_indexOfSupplementary_4cfef_33 : decode cJ2_indexOfSupplementary_4cfef 33 = .ok (.if_icmp .ge 36, 3) := by decide +kernel
theorem dJ2_indexOfSupplementary_4cfef_36 : decode cJ2_indexOfSupplementary_4cfef 36 = .ok (.aload_n 0, 1) := by decide +kernel
theorem dJ2_indexOfSupplementary_4cfef_37 : decode cJ2_indexOfSupplementary_4cfef 37 = .ok (.iload 6, 2) := by decide +kernel
theorem dJ2_indexOfSupplementary_4cfef_39 : decode cJ2_indexOfSupplementary_4cfef 39 = .ok (.invokestatic 71, 3) := by decide +kernel
theorem dJ2_indexOfSupplementary_4cfef_42 : decode cJ2_indexOfSupplementary_4cfef 42 = .ok (.iload 4, 2) := by decide +kernel
theorem dJ2_indexOfSupplementary_4cfef_44 : decode cJ2_indexOfSupplementary_4cfef 44 = .ok (.if_icmp .ne 19, 3) := by decide +kernel
theorem dJ2_indexOfSupplementary_4cfef_47 : decode cJ2_indexOfSupplementary_4cfef 47 = .ok (.aload_n 0, 1) := by decide +kernel
theorem dJ2_indexOfSupplementary_4cfef_48 : decode cJ2_indexOfSupplementary_4cfef 48 = .ok (.iload 6, 2) := by decide +kernel
theorem dJ2_indexOfSupplementary_4cfef_50 : decode cJ2_indexOfSupplementary_4cfef 50 = .ok (.iconst 1, 1) := by decide +kernel
theorem dJ2_indexOfSupplementary_4cfef_51 : decode cJ2_indexOfSupplementary_4cfef 51 = .ok (.iadd, 1) := by decide +kernel
theorem dJ2_indexOfSupplementary_4cfef_52 : decode cJ2_indexOfSupplementary_4cfef 52 = .ok (.invokestatic 71, 3) := by decide +kernel
theorem dJ2_indexOfSupplementary_4cfef_55 : decode cJ2_indexOfSupplementary_4cfef 55 = .ok (.iload 5, 2) := by decide +kernel
theorem dJ2_indexOfSupplementary_4cfef_57 : decode cJ2_indexOfSupplementary_4cfef 57 = .ok (.if_icmp .ne 6, 3) := by decide +kernel
theorem dJ2_indexOfSupplementary_4cfef_60 : decode cJ2_indexOfSupplementary_4cfef 60 = .ok (.iload 6, 2) := by decide +kernel
theorem dJ2_indexOfSupplementary_4cfef_62 : decode cJ2_indexOfSupplementary_4cfef 62 = .ok (.ireturn, 1) := by decide +kernel
theorem dJ2_indexOfSupplementary_4cfef_63 : decode cJ2_indexOfSupplementary_4cfef 63 = .ok (.iinc 6 1, 3) := by decide +kernel
theorem dJ2_indexOfSupplementary_4cfef_66 : decode cJ2_indexOfSupplementary_4cfef 66 = .ok (.goto (-38), 3) := by decide +kernel
theorem dJ2_indexOfSupplementary_4cfef_69 : decode cJ2_indexOfSupplementary_4cfef 69 = .ok (.iconst (-1), 1) := by decide +kernel
theorem dJ2_indexOfSupplementary_4cfef_70 : decode cJ2_indexOfSupplementary_4cfef 70 = .ok (.ireturn, 1) := by decide +kernel
theorem dJ2_checkBoundsBeginEnd_d044e_0 : decode cJ2_checkBoundsBeginEnd_d044e 0 = .ok (.iload_n 0, 1) := by decide +kernel
theorem dJ2_checkBoundsBeginEnd_d044e_1 : decode cJ2_checkBoundsBeginEnd_d044e 1 = .ok (.iload_n 1, 1) := by decide +kernel
theorem dJ2_checkBoundsBeginEnd_d044e_2 : decode cJ2_checkBoundsBeginEnd_d044e 2 = .ok (.aload_n 2, 1) := by decide +kernel
theorem dJ2_checkBoundsBeginEnd_d044e_3 : decode cJ2_checkBoundsBeginEnd_d044e 3 = .ok (.invokestatic 48, 3) := by decide +kernel
theorem dJ2_checkBoundsBeginEnd_d044e_6 : decode cJ2_checkBoundsBeginEnd_d044e 6 = .ok (.invokestatic 241, 3) := by decide +kernel
theorem dJ2_checkBoundsBeginEnd_d044e_9 : decode cJ2_checkBoundsBeginEnd_d044e 9 = .ok (.return_, 1) := by decide +kernel
theorem dJ3_checkFromToIndex_8c36e_0 : decode cJ3_checkFromToIndex_8c36e 0 = .ok (.iload_n 0, 1) := by decide +kernel
theorem dJ3_checkFromToIndex_8c36e_1 : decode cJ3_checkFromToIndex_8c36e 1 = .ok (.ifCond .lt 13, 3) := by decide +kernel
theorem dJ3_checkFromToIndex_8c36e_4 : decode cJ3_checkFromToIndex_8c36e 4 = .ok (.iload_n 0, 1) := by decide +kernel
theorem dJ3_checkFromToIndex_8c36e_5 : decode cJ3_checkFromToIndex_8c36e 5 = .ok (.iload_n 1, 1) := by decide +kernel
theorem dJ3_checkFromToIndex_8c36e_6 : decode cJ3_checkFromToIndex_8c36e 6 = .ok (.if_icmp .gt 8, 3) := by decide +kernel
theorem dJ3_checkFromToIndex_8c36e_9 : decode cJ3_checkFromToIndex_8c36e 9 = .ok (.iload_n 1, 1) := by decide +kernel
theorem dJ3_checkFromToIndex_8c36e_10 : decode cJ3_checkFromToIndex_8c36e 10 = .ok (.iload_n 2, 1) := by decide +kernel
theorem dJ3_checkFromToIndex_8c36e_11 : decode cJ3_checkFromToIndex_8c36e 11 = .ok (.if_icmp .le 11, 3) := by decide +kernel
theorem dJ3_checkFromToIndex_8c36e_14 : decode cJ3_checkFromToIndex_8c36e 14 = .ok (.aload_n 3, 1) := by decide +kernel
theorem dJ3_checkFromToIndex_8c36e_15 : decode cJ3_checkFromToIndex_8c36e 15 = .ok (.iload_n 0, 1) := by decide +kernel
theorem dJ3_checkFromToIndex_8c36e_16 : decode cJ3_checkFromToIndex_8c36e 16 = .ok (.iload_n 1, 1) := by decide +kernel
theorem dJ3_checkFromToIndex_8c36e_17 : decode cJ3_checkFromToIndex_8c36e 17 = .ok (.iload_n 2, 1) := by decide +kernel
theorem dJ3_checkFromToIndex_8c36e_18 : decode cJ3_checkFromToIndex_8c36e 18 = .ok (.invokestatic 99, 3) := by decide +kernel
theorem dJ3_checkFromToIndex_8c36e_21 : decode cJ3_checkFromToIndex_8c36e 21 = .ok (.athrow, 1) := by decide +kernel
theorem dJ3_checkFromToIndex_8c36e_22 : decode cJ3_checkFromToIndex_8c36e 22 = .ok (.iload_n 0, 1) := by decide +kernel
theorem dJ3_checkFromToIndex_8c36e_23 : decode cJ3_checkFromToIndex_8c36e 23 = .ok (.ireturn, 1) := by decide +kernel
theorem dL_law_0 : decode cL_law 0 = .ok (.new 7, 3) := by decide +kernel
theorem dL_law_3 : decode cL_law 3 = .ok (.dup, 1) := by decide +kernel
theorem dL_law_4 : decode cL_law 4 = .ok (.invokespecial 9, 3) := by decide +kernel
theorem dL_law_7 : decode cL_law 7 = .ok (.astore_n 1, 1) := by decide +kernel
theorem dL_law_8 : decode cL_law 8 = .ok (.new 10, 3) := by decide +kernel
theorem dL_law_11 : decode cL_law 11 = .ok (.dup, 1) := by decide +kernel
theorem dL_law_12 : decode cL_law 12 = .ok (.invokespecial 12, 3) := by decide +kernel
theorem dL_law_15 : decode cL_law 15 = .ok (.astore_n 2, 1) := by decide +kernel
theorem dL_law_16 : decode cL_law 16 = .ok (.iconst 0, 1) := by decide +kernel
theorem dL_law_17 : decode cL_law 17 = .ok (.istore_n 3, 1) := by decide +kernel
theorem dL_law_18 : decode cL_law 18 = .ok (.iload_n 3, 1) := by decide +kernel
theorem dL_law_19 : decode cL_law 19 = .ok (.aload_n 0, 1) := by decide +kernel
theorem dL_law_20 : decode cL_law 20 = .ok (.arraylength, 1) := by decide +kernel
theorem dL_law_21 : decode cL_law 21 = .ok (.iconst 4, 1) := by decide +kernel
theorem dL_law_22 : decode cL_law 22 = .ok (.isub, 1) := by decide +kernel
theorem dL_law_23 : decode cL_law 23 = .ok (.if_icmp .gt 711, 3) := by decide +kernel
theorem dL_law_26 : decode cL_law 26 = .ok (.aload_n 0, 1) := by decide +kernel
theorem dL_law_27 : decode cL_law 27 = .ok (.iload_n 3, 1) := by decide +kernel
theorem dL_law_28 : decode cL_law 28 = .ok (.iaload, 1) := by decide +kernel
theorem dL_law_29 : decode cL_law 29 = .ok (.bipush 31, 2) := by decide +kernel
theorem dL_law_31 : decode cL_law 31 = .ok (.iand, 1) := by decide +kernel
theorem dL_law_32 : decode cL_law 32 = .ok (.tableswitch 696 0 20 #[100, 123, 136, 149, 162, 195, 228, 261, 304, 363, 396, 429, 462, 521, 534, 567, 590, 633, 646, 659, 682], 100) := by decide +kernel
theorem dL_law_132 : decode cL_law 132 = .ok (.aload_n 1, 1) := by decide +kernel
theorem dL_law_133 : decode cL_law 133 = .ok (.aload_n 0, 1) := by decide +kernel
theorem dL_law_134 : decode cL_law 134 = .ok (.iload_n 3, 1) := by decide +kernel
theorem dL_law_135 : decode cL_law 135 = .ok (.iconst 1, 1) := by decide +kernel
theorem dL_law_136 : decode cL_law 136 = .ok (.iadd, 1) := by decide +kernel
theorem dL_law_137 : decode cL_law 137 = .ok (.iaload, 1) := by decide +kernel
theorem dL_law_138 : decode cL_law 138 = .ok (.invokevirtual 13, 3) := by decide +kernel
theorem dL_law_141 : decode cL_law 141 = .ok (.aload_n 2, 1) := by decide +kernel
theorem dL_law_142 : decode cL_law 142 = .ok (.aload_n 0, 1) := by decide +kernel
theorem dL_law_143 : decode cL_law 143 = .ok (.iload_n 3, 1) := by decide +kernel
theorem dL_law_144 : decode cL_law 144 = .ok (.iconst 1, 1) := by decide +kernel
theorem dL_law_145 : decode cL_law 145 = .ok (.iadd, 1) := by decide +kernel
theorem dL_law_146 : decode cL_law 146 = .ok (.iaload, 1) := by decide +kernel
theorem dL_law_147 : decode cL_law 147 = .ok (.invokevirtual 17, 3) := by decide +kernel
theorem dL_law_150 : decode cL_law 150 = .ok (.if_icmp .eq 578, 3) := by decide +kernel
theorem dL_law_153 : decode cL_law 153 = .ok (.iconst 0, 1) := by decide +kernel
theorem dL_law_154 : decode cL_law 154 = .ok (.ireturn, 1) := by decide +kernel
theorem dL_law_155 : decode cL_law 155 = .ok (.aload_n 1, 1) := by decide +kernel
theorem dL_law_156 : decode cL_law 156 = .ok (.invokevirtual 18, 3) := by decide +kernel
theorem dL_law_159 : decode cL_law 159 = .ok (.aload_n 2, 1) := by decide +kernel
theorem dL_law_160 : decode cL_law 160 = .ok (.invokevirtual 22, 3) := by decide +kernel
theorem dL_law_163 : decode cL_law 163 = .ok (.if_icmp .eq 565, 3) := by decide +kernel
theorem dL_law_166 : decode cL_law 166 = .ok (.iconst 0, 1) := by decide +kernel
theorem dL_law_167 : decode cL_law 167 = .ok (.ireturn, 1) := by decide +kernel
theorem dL_law_168 : decode cL_law 168 = .ok (.aload_n 1, 1) := by decide +kernel
theorem dL_law_169 : decode cL_law 169 = .ok (.invokevirtual 23, 3) := by decide +kernel
theorem dL_law_172 : decode cL_law 172 = .ok (.aload_n 2, 1) := by decide +kernel
theorem dL_law_173 : decode cL_law 173 = .ok (.invokevirtual 26, 3) := by decide +kernel
theorem dL_law_176 : decode cL_law 176 = .ok (.if_icmp .eq 552, 3) := by decide +kernel
theorem dL_law_179 : decode cL_law 179 = .ok (.iconst 0, 1) := by decide +kernel
theorem dL_law_180 : decode cL_law 180 = .ok (.ireturn, 1) := by decide +kernel
theorem dL_law_181 : decode cL_law 181 = .ok (.aload_n 1, 1) := by decide +kernel
theorem dL_law_182 : decode cL_law 182 = .ok (.invokevirtual 27, 3) := by decide +kernel
theorem dL_law_185 : decode cL_law 185 = .ok (.aload_n 2, 1) := by decide +kernel
theorem dL_law_186 : decode cL_law 186 = .ok (.invokevirtual 30, 3) := by decide +kernel
theorem dL_law_189 : decode cL_law 189 = .ok (.if_icmp .eq 539, 3) := by decide +kernel
theorem dL_law_192 : decode cL_law 192 = .ok (.iconst 0, 1) := by decide +kernel
theorem dL_law_193 : decode cL_law 193 = .ok (.ireturn, 1) := by decide +kernel
theorem dL_law_194 : decode cL_law 194 = .ok (.aload_n 1, 1) := by decide +kernel
theorem dL_law_195 : decode cL_law 195 = .ok (.aload_n 0, 1) := by decide +kernel
theorem dL_law_196 : decode cL_law 196 = .ok (.iload_n 3, 1) := by decide +kernel
theorem dL_law_197 : decode cL_law 197 = .ok (.iconst 1, 1) := by decide +kernel
theorem dL_law_198 : decode cL_law 198 = .ok (.iadd, 1) := by decide +kernel
theorem dL_law_199 : decode cL_law 199 = .ok (.iaload, 1) := by decide +kernel
theorem dL_law_200 : decode cL_law 200 = .ok (.aload_n 0, 1) := by decide +kernel
theorem dL_law_201 : decode cL_law 201 = .ok (.iload_n 3, 1) := by decide +kernel
theorem dL_law_202 : decode cL_law 202 = .ok (.iconst 2, 1) := by decide +kernel
theorem dL_law_203 : decode cL_law 203 = .ok (.iadd, 1) := by decide +kernel
theorem dL_law_204 : decode cL_law 204 = .ok (.iaload, 1) := by decide +kernel
theorem dL_law_205 : decode cL_law 205 = .ok (.invokevirtual 31, 3) := by decide +kernel
theorem dL_law_208 : decode cL_law 208 = .ok (.aload_n 2, 1) := by decide +kernel
theorem dL_law_209 : decode cL_law 209 = .ok (.aload_n 0, 1) := by decide +kernel
theorem dL_law_210 : decode cL_law 210 = .ok (.iload_n 3, 1) := by decide +kernel
theorem dL_law_211 : decode cL_law 211 = .ok (.iconst 1, 1) := by decide +kernel
theorem dL_law_212 : decode cL_law 212 = .ok (.iadd, 1) := by decide +kernel
theorem dL_law_213 : decode cL_law 213 = .ok (.iaload, 1) := by decide +kernel
theorem dL_law_214 : decode cL_law 214 = .ok (.aload_n 0, 1) := by decide +kernel
theorem dL_law_215 : decode cL_law 215 = .ok (.iload_n 3, 1) := by decide +kernel
theorem dL_law_216 : decode cL_law 216 = .ok (.iconst 2, 1) := by decide +kernel
theorem dL_law_217 : decode cL_law 217 = .ok (.iadd, 1) := by decide +kernel
theorem dL_law_218 : decode cL_law 218 = .ok (.iaload, 1) := by decide +kernel
theorem dL_law_219 : decode cL_law 219 = .ok (.invokevirtual 35, 3) := by decide +kernel
theorem dL_law_222 : decode cL_law 222 = .ok (.if_icmp .eq 506, 3) := by decide +kernel
theorem dL_law_225 : decode cL_law 225 = .ok (.iconst 0, 1) := by decide +kernel
theorem dL_law_226 : decode cL_law 226 = .ok (.ireturn, 1) := by decide +kernel
theorem dL_law_227 : decode cL_law 227 = .ok (.aload_n 1, 1) := by decide +kernel
theorem dL_law_228 : decode cL_law 228 = .ok (.aload_n 0, 1) := by decide +kernel
theorem dL_law_229 : decode cL_law 229 = .ok (.iload_n 3, 1) := by decide +kernel
theorem dL_law_230 : decode cL_law 230 = .ok (.iconst 1, 1) := by decide +kernel
theorem dL_law_231 : decode cL_law 231 = .ok (.iadd, 1) := by decide +kernel
theorem dL_law_232 : decode cL_law 232 = .ok (.iaload, 1) := by decide +kernel
theorem dL_law_233 : decode cL_law 233 = .ok (.aload_n 0, 1) := by decide +kernel
theorem dL_law_234 : decode cL_law 234 = .ok (.iload_n 3, 1) := by decide +kernel
theorem dL_law_235 : decode cL_law 235 = .ok (.iconst 2, 1) := by decide +kernel
theorem dL_law_236 : decode cL_law 236 = .ok (.iadd, 1) := by decide +kernel
theorem dL_law_237 : decode cL_law 237 = .ok (.iaload, 1) := by decide +kernel
theorem dL_law_238 : decode cL_law 238 = .ok (.invokevirtual 36, 3) := by decide +kernel
theorem dL_law_241 : decode cL_law 241 = .ok (.aload_n 2, 1) := by decide +kernel
theorem dL_law_242 : decode cL_law 242 = .ok (.aload_n 0, 1) := by decide +kernel
theorem dL_law_243 : decode cL_law 243 = .ok (.iload_n 3, 1) := by decide +kernel
theorem dL_law_244 : decode cL_law 244 = .ok (.iconst 1, 1) := by decide +kernel
theorem dL_law_245 : decode cL_law 245 = .ok (.iadd, 1) := by decide +kernel
theorem dL_law_246 : decode cL_law 246 = .ok (.iaload, 1) := by decide +kernel
theorem dL_law_247 : decode cL_law 247 = .ok (.aload_n 0, 1) := by decide +kernel
theorem dL_law_248 : decode cL_law 248 = .ok (.iload_n 3, 1) := by decide +kernel
theorem dL_law_249 : decode cL_law 249 = .ok (.iconst 2, 1) := by decide +kernel
theorem dL_law_250 : decode cL_law 250 = .ok (.iadd, 1) := by decide +kernel
theorem dL_law_251 : decode cL_law 251 = .ok (.iaload, 1) := by decide +kernel
theorem dL_law_252 : decode cL_law 252 = .ok (.invokevirtual 39, 3) := by decide +kernel
theorem dL_law_255 : decode cL_law 255 = .ok (.if_icmp .eq 473, 3) := by decide +kernel
theorem dL_law_258 : decode cL_law 258 = .ok (.iconst 0, 1) := by decide +kernel
theorem dL_law_259 : decode cL_law 259 = .ok (.ireturn, 1) := by decide +kernel
theorem dL_law_260 : decode cL_law 260 = .ok (.aload_n 1, 1) := by decide +kernel
theorem dL_law_261 : decode cL_law 261 = .ok (.aload_n 0, 1) := by decide +kernel
theorem dL_law_262 : decode cL_law 262 = .ok (.iload_n 3, 1) := by decide +kernel
theorem dL_law_263 : decode cL_law 263 = .ok (.iconst 1, 1) := by decide +kernel
theorem dL_law_264 : decode cL_law 264 = .ok (.iadd, 1) := by decide +kernel
theorem dL_law_265 : decode cL_law 265 = .ok (.iaload, 1) := by decide +kernel
theorem dL_law_266 : decode cL_law 266 = .ok (.aload_n 0, 1) := by decide +kernel
theorem dL_law_267 : decode cL_law 267 = .ok (.iload_n 3, 1) := by decide +kernel
theorem dL_law_268 : decode cL_law 268 = .ok (.iconst 2, 1) := by decide +kernel
theorem dL_law_269 : decode cL_law 269 = .ok (.iadd, 1) := by decide +kernel
theorem dL_law_270 : decode cL_law 270 = .ok (.iaload, 1) := by decide +kernel
theorem dL_law_271 : decode cL_law 271 = .ok (.invokevirtual 40, 3) := by decide +kernel
theorem dL_law_274 : decode cL_law 274 = .ok (.aload_n 2, 1) := by decide +kernel
theorem dL_law_275 : decode cL_law 275 = .ok (.aload_n 0, 1) := by decide +kernel
theorem dL_law_276 : decode cL_law 276 = .ok (.iload_n 3, 1) := by decide +kernel
theorem dL_law_277 : decode cL_law 277 = .ok (.iconst 1, 1) := by decide +kernel
theorem dL_law_278 : decode cL_law 278 = .ok (.iadd, 1) := by decide +kernel
theorem dL_law_279 : decode cL_law 279 = .ok (.iaload, 1) := by decide +kernel
theorem dL_law_280 : decode cL_law 280 = .ok (.aload_n 0, 1) := by decide +kernel
theorem dL_law_281 : decode cL_law 281 = .ok (.iload_n 3, 1) := by decide +kernel
theorem dL_law_282 : decode cL_law 282 = .ok (.iconst 2, 1) := by decide +kernel
theorem dL_law_283 : decode cL_law 283 = .ok (.iadd, 1) := by decide +kernel
theorem dL_law_284 : decode cL_law 284 = .ok (.iaload, 1) := by decide +kernel
theorem dL_law_285 : decode cL_law 285 = .ok (.invokevirtual 43, 3) := by decide +kernel
theorem dL_law_288 : decode cL_law 288 = .ok (.if_icmp .eq 440, 3) := by decide +kernel
theorem dL_law_291 : decode cL_law 291 = .ok (.iconst 0, 1) := by decide +kernel
theorem dL_law_292 : decode cL_law 292 = .ok (.ireturn, 1) := by decide +kernel
theorem dL_law_293 : decode cL_law 293 = .ok (.aload_n 1, 1) := by decide +kernel
theorem dL_law_294 : decode cL_law 294 = .ok (.aload_n 0, 1) := by decide +kernel
theorem dL_law_295 : decode cL_law 295 = .ok (.iload_n 3, 1) := by decide +kernel
theorem dL_law_296 : decode cL_law 296 = .ok (.iconst 1, 1) := by decide +kernel
theorem dL_law_297 : decode cL_law 297 = .ok (.iadd, 1) := by decide +kernel
theorem dL_law_298 : decode cL_law 298 = .ok (.iaload, 1) := by decide +kernel
theorem dL_law_299 : decode cL_law 299 = .ok (.aload_n 0, 1) := by decide +kernel
theorem dL_law_300 : decode cL_law 300 = .ok (.iload_n 3, 1) := by decide +kernel
theorem dL_law_301 : decode cL_law 301 = .ok (.iconst 2, 1) := by decide +kernel
theorem dL_law_302 : decode cL_law 302 = .ok (.iadd, 1) := by decide +kernel
theorem dL_law_303 : decode cL_law 303 = .ok (.iaload, 1) := by decide +kernel
theorem dL_law_304 : decode cL_law 304 = .ok (.aload_n 0, 1) := by decide +kernel
theorem dL_law_305 : decode cL_law 305 = .ok (.iload_n 3, 1) := by decide +kernel
theorem dL_law_306 : decode cL_law 306 = .ok (.iconst 3, 1) := by decide +kernel
theorem dL_law_307 : decode cL_law 307 = .ok (.iadd, 1) := by decide +kernel
theorem dL_law_308 : decode cL_law 308 = .ok (.iaload, 1) := by decide +kernel
theorem dL_law_309 : decode cL_law 309 = .ok (.invokevirtual 44, 3) := by decide +kernel
theorem dL_law_312 : decode cL_law 312 = .ok (.aload_n 2, 1) := by decide +kernel
theorem dL_law_313 : decode cL_law 313 = .ok (.aload_n 0, 1) := by decide +kernel
theorem dL_law_314 : decode cL_law 314 = .ok (.iload_n 3, 1) := by decide +kernel
theorem dL_law_315 : decode cL_law 315 = .ok (.iconst 1, 1) := by decide +kernel
theorem dL_law_316 : decode cL_law 316 = .ok (.iadd, 1) := by decide +kernel
theorem dL_law_317 : decode cL_law 317 = .ok (.iaload, 1) := by decide +kernel
theorem dL_law_318 : decode cL_law 318 = .ok (.aload_n 0, 1) := by decide +kernel
theorem dL_law_319 : decode cL_law 319 = .ok (.iload_n 3, 1) := by decide +kernel
theorem dL_law_320 : decode cL_law 320 = .ok (.iconst 2, 1) := by decide +kernel
theorem dL_law_321 : decode cL_law 321 = .ok (.iadd, 1) := by decide +kernel
theorem dL_law_322 : decode cL_law 322 = .ok (.iaload, 1) := by decide +kernel
theorem dL_law_323 : decode cL_law 323 = .ok (.aload_n 0, 1) := by decide +kernel
theorem dL_law_324 : decode cL_law 324 = .ok (.iload_n 3, 1) := by decide +kernel
theorem dL_law_325 : decode cL_law 325 = .ok (.iconst 3, 1) := by decide +kernel
theorem dL_law_326 : decode cL_law 326 = .ok (.iadd, 1) := by decide +kernel
theorem dL_law_327 : decode cL_law 327 = .ok (.iaload, 1) := by decide +kernel
theorem dL_law_328 : decode cL_law 328 = .ok (.invokevirtual 48, 3) := by decide +kernel
theorem dL_law_331 : decode cL_law 331 = .ok (.if_icmp .eq 397, 3) := by decide +kernel
theorem dL_law_334 : decode cL_law 334 = .ok (.iconst 0, 1) := by decide +kernel
theorem dL_law_335 : decode cL_law 335 = .ok (.ireturn, 1) := by decide +kernel
theorem dL_law_336 : decode cL_law 336 = .ok (.aload_n 1, 1) := by decide +kernel
theorem dL_law_337 : decode cL_law 337 = .ok (.aload_n 0, 1) := by decide +kernel
theorem dL_law_338 : decode cL_law 338 = .ok (.iload_n 3, 1) := by decide +kernel
theorem dL_law_339 : decode cL_law 339 = .ok (.iconst 1, 1) := by decide +kernel
theorem dL_law_340 : decode cL_law 340 = .ok (.iadd, 1) := by decide +kernel
theorem dL_law_341 : decode cL_law 341 = .ok (.iaload, 1) := by decide +kernel
theorem dL_law_342 : decode cL_law 342 = .ok (.aload_n 0, 1) := by decide +kernel
theorem dL_law_343 : decode cL_law 343 = .ok (.iload_n 3, 1) := by decide +kernel
theorem dL_law_344 : decode cL_law 344 = .ok (.iconst 2, 1) := by decide +kernel
theorem dL_law_345 : decode cL_law 345 = .ok (.iadd, 1) := by decide +kernel
theorem dL_law_346 : decode cL_law 346 = .ok (.iaload, 1) := by decide +kernel
theorem dL_law_347 : decode cL_law 347 = .ok (.aload_n 0, 1) := by decide +kernel
theorem dL_law_348 : decode cL_law 348 = .ok (.iload_n 3, 1) := by decide +kernel
theorem dL_law_349 : decode cL_law 349 = .ok (.iconst 3, 1) := by decide +kernel
theorem dL_law_350 : decode cL_law 350 = .ok (.iadd, 1) := by decide +kernel
theorem dL_law_351 : decode cL_law 351 = .ok (.iaload, 1) := by decide +kernel
theorem dL_law_352 : decode cL_law 352 = .ok (.ifCond .eq 7, 3) := by decide +kernel
theorem dL_law_355 : decode cL_law 355 = .ok (.iconst 1, 1) := by decide +kernel
theorem dL_law_356 : decode cL_law 356 = .ok (.goto 4, 3) := by decide +kernel
theorem dL_law_359 : decode cL_law 359 = .ok (.iconst 0, 1) := by decide +kernel
theorem dL_law_360 : decode cL_law 360 = .ok (.invokevirtual 49, 3) := by decide +kernel
theorem dL_law_363 : decode cL_law 363 = .ok (.aload_n 2, 1) := by decide +kernel
theorem dL_law_364 : decode cL_law 364 = .ok (.aload_n 0, 1) := by decide +kernel
theorem dL_law_365 : decode cL_law 365 = .ok (.iload_n 3, 1) := by decide +kernel
theorem dL_law_366 : decode cL_law 366 = .ok (.iconst 1, 1) := by decide +kernel
theorem dL_law_367 : decode cL_law 367 = .ok (.iadd, 1) := by decide +kernel
theorem dL_law_368 : decode cL_law 368 = .ok (.iaload, 1) := by decide +kernel
theorem dL_law_369 : decode cL_law 369 = .ok (.aload_n 0, 1) := by decide +kernel
theorem dL_law_370 : decode cL_law 370 = .ok (.iload_n 3, 1) := by decide +kernel
theorem dL_law_371 : decode cL_law 371 = .ok (.iconst 2, 1) := by decide +kernel
theorem dL_law_372 : decode cL_law 372 = .ok (.iadd, 1) := by decide +kernel
theorem dL_law_373 : decode cL_law 373 = .ok (.iaload, 1) := by decide +kernel
theorem dL_law_374 : decode cL_law 374 = .ok (.aload_n 0, 1) := by decide +kernel
theorem dL_law_375 : decode cL_law 375 = .ok (.iload_n 3, 1) := by decide +kernel
theorem dL_law_376 : decode cL_law 376 = .ok (.iconst 3, 1) := by decide +kernel
theorem dL_law_377 : decode cL_law 377 = .ok (.iadd, 1) := by decide +kernel
theorem dL_law_378 : decode cL_law 378 = .ok (.iaload, 1) := by decide +kernel
theorem dL_law_379 : decode cL_law 379 = .ok (.ifCond .eq 7, 3) := by decide +kernel
theorem dL_law_382 : decode cL_law 382 = .ok (.iconst 1, 1) := by decide +kernel
theorem dL_law_383 : decode cL_law 383 = .ok (.goto 4, 3) := by decide +kernel
theorem dL_law_386 : decode cL_law 386 = .ok (.iconst 0, 1) := by decide +kernel
theorem dL_law_387 : decode cL_law 387 = .ok (.invokevirtual 53, 3) := by decide +kernel
theorem dL_law_390 : decode cL_law 390 = .ok (.if_icmp .eq 338, 3) := by decide +kernel
theorem dL_law_393 : decode cL_law 393 = .ok (.iconst 0, 1) := by decide +kernel
theorem dL_law_394 : decode cL_law 394 = .ok (.ireturn, 1) := by decide +kernel
theorem dL_law_395 : decode cL_law 395 = .ok (.aload_n 1, 1) := by decide +kernel
theorem dL_law_396 : decode cL_law 396 = .ok (.aload_n 0, 1) := by decide +kernel
theorem dL_law_397 : decode cL_law 397 = .ok (.iload_n 3, 1) := by decide +kernel
theorem dL_law_398 : decode cL_law 398 = .ok (.iconst 1, 1) := by decide +kernel
theorem dL_law_399 : decode cL_law 399 = .ok (.iadd, 1) := by decide +kernel
theorem dL_law_400 : decode cL_law 400 = .ok (.iaload, 1) := by decide +kernel
theorem dL_law_401 : decode cL_law 401 = .ok (.aload_n 0, 1) := by decide +kernel
theorem dL_law_402 : decode cL_law 402 = .ok (.iload_n 3, 1) := by decide +kernel
theorem dL_law_403 : decode cL_law 403 = .ok (.iconst 2, 1) := by decide +kernel
theorem dL_law_404 : decode cL_law 404 = .ok (.iadd, 1) := by decide +kernel
theorem dL_law_405 : decode cL_law 405 = .ok (.iaload, 1) := by decide +kernel
theorem dL_law_406 : decode cL_law 406 = .ok (.invokevirtual 54, 3) := by decide +kernel
theorem dL_law_409 : decode cL_law 409 = .ok (.aload_n 2, 1) := by decide +kernel
theorem dL_law_410 : decode cL_law 410 = .ok (.aload_n 0, 1) := by decide +kernel
theorem dL_law_411 : decode cL_law 411 = .ok (.iload_n 3, 1) := by decide +kernel
theorem dL_law_412 : decode cL_law 412 = .ok (.iconst 1, 1) := by decide +kernel
theorem dL_law_413 : decode cL_law 413 = .ok (.iadd, 1) := by decide +kernel
theorem dL_law_414 : decode cL_law 414 = .ok (.iaload, 1) := by decide +kernel
theorem dL_law_415 : decode cL_law 415 = .ok (.aload_n 0, 1) := by decide +kernel
theorem dL_law_416 : decode cL_law 416 = .ok (.iload_n 3, 1) := by decide +kernel
theorem dL_law_417 : decode cL_law 417 = .ok (.iconst 2, 1) := by decide +kernel
theorem dL_law_418 : decode cL_law 418 = .ok (.iadd, 1) := by decide +kernel
theorem dL_law_419 : decode cL_law 419 = .ok (.iaload, 1) := by decide +kernel
theorem dL_law_420 : decode cL_law 420 = .ok (.invokevirtual 57, 3) := by decide +kernel
theorem dL_law_423 : decode cL_law 423 = .ok (.if_icmp .eq 305, 3) := by decide +kernel
theorem dL_law_426 : decode cL_law 426 = .ok (.iconst 0, 1) := by decide +kernel
theorem dL_law_427 : decode cL_law 427 = .ok (.ireturn, 1) := by decide +kernel
theorem dL_law_428 : decode cL_law 428 = .ok (.aload_n 1, 1) := by decide +kernel
theorem dL_law_429 : decode cL_law 429 = .ok (.aload_n 0, 1) := by decide +kernel
theorem dL_law_430 : decode cL_law 430 = .ok (.iload_n 3, 1) := by decide +kernel
theorem dL_law_431 : decode cL_law 431 = .ok (.iconst 1, 1) := by decide +kernel
theorem dL_law_432 : decode cL_law 432 = .ok (.iadd, 1) := by decide +kernel
theorem dL_law_433 : decode cL_law 433 = .ok (.iaload, 1) := by decide +kernel
theorem dL_law_434 : decode cL_law 434 = .ok (.aload_n 0, 1) := by decide +kernel
theorem dL_law_435 : decode cL_law 435 = .ok (.iload_n 3, 1) := by decide +kernel
theorem dL_law_436 : decode cL_law 436 = .ok (.iconst 2, 1) := by decide +kernel
theorem dL_law_437 : decode cL_law 437 = .ok (.iadd, 1) := by decide +kernel
theorem dL_law_438 : decode cL_law 438 = .ok (.iaload, 1) := by decide +kernel
theorem dL_law_439 : decode cL_law 439 = .ok (.invokevirtual 58, 3) := by decide +kernel
theorem dL_law_442 : decode cL_law 442 = .ok (.aload_n 2, 1) := by decide +kernel
theorem dL_law_443 : decode cL_law 443 = .ok (.aload_n 0, 1) := by decide +kernel
theorem dL_law_444 : decode cL_law 444 = .ok (.iload_n 3, 1) := by decide +kernel
theorem dL_law_445 : decode cL_law 445 = .ok (.iconst 1, 1) := by decide +kernel
theorem dL_law_446 : decode cL_law 446 = .ok (.iadd, 1) := by decide +kernel
theorem dL_law_447 : decode cL_law 447 = .ok (.iaload, 1) := by decide +kernel
theorem dL_law_448 : decode cL_law 448 = .ok (.aload_n 0, 1) := by decide +kernel
theorem dL_law_449 : decode cL_law 449 = .ok (.iload_n 3, 1) := by decide +kernel
theorem dL_law_450 : decode cL_law 450 = .ok (.iconst 2, 1) := by decide +kernel
theorem dL_law_451 : decode cL_law 451 = .ok (.iadd, 1) := by decide +kernel
theorem dL_law_452 : decode cL_law 452 = .ok (.iaload, 1) := by decide +kernel
theorem dL_law_453 : decode cL_law 453 = .ok (.invokevirtual 61, 3) := by decide +kernel
theorem dL_law_456 : decode cL_law 456 = .ok (.if_icmp .eq 272, 3) := by decide +kernel
theorem dL_law_459 : decode cL_law 459 = .ok (.iconst 0, 1) := by decide +kernel
theorem dL_law_460 : decode cL_law 460 = .ok (.ireturn, 1) := by decide +kernel
theorem dL_law_461 : decode cL_law 461 = .ok (.aload_n 1, 1) := by decide +kernel
theorem dL_law_462 : decode cL_law 462 = .ok (.aload_n 0, 1) := by decide +kernel
theorem dL_law_463 : decode cL_law 463 = .ok (.iload_n 3, 1) := by decide +kernel
theorem dL_law_464 : decode cL_law 464 = .ok (.iconst 1, 1) := by decide +kernel
theorem dL_law_465 : decode cL_law 465 = .ok (.iadd, 1) := by decide +kernel
theorem dL_law_466 : decode cL_law 466 = .ok (.iaload, 1) := by decide +kernel
theorem dL_law_467 : decode cL_law 467 = .ok (.aload_n 0, 1) := by decide +kernel
theorem dL_law_468 : decode cL_law 468 = .ok (.iload_n 3, 1) := by decide +kernel
theorem dL_law_469 : decode cL_law 469 = .ok (.iconst 2, 1) := by decide +kernel
theorem dL_law_470 : decode cL_law 470 = .ok (.iadd, 1) := by decide +kernel
theorem dL_law_471 : decode cL_law 471 = .ok (.iaload, 1) := by decide +kernel
theorem dL_law_472 : decode cL_law 472 = .ok (.invokevirtual 62, 3) := by decide +kernel
theorem dL_law_475 : decode cL_law 475 = .ok (.aload_n 2, 1) := by decide +kernel
theorem dL_law_476 : decode cL_law 476 = .ok (.aload_n 0, 1) := by decide +kernel
theorem dL_law_477 : decode cL_law 477 = .ok (.iload_n 3, 1) := by decide +kernel
theorem dL_law_478 : decode cL_law 478 = .ok (.iconst 1, 1) := by decide +kernel
theorem dL_law_479 : decode cL_law 479 = .ok (.iadd, 1) := by decide +kernel
theorem dL_law_480 : decode cL_law 480 = .ok (.iaload, 1) := by decide +kernel
theorem dL_law_481 : decode cL_law 481 = .ok (.aload_n 0, 1) := by decide +kernel
theorem dL_law_482 : decode cL_law 482 = .ok (.iload_n 3, 1) := by decide +kernel
theorem dL_law_483 : decode cL_law 483 = .ok (.iconst 2, 1) := by decide +kernel
theorem dL_law_484 : decode cL_law 484 = .ok (.iadd, 1) := by decide +kernel
theorem dL_law_485 : decode cL_law 485 = .ok (.iaload, 1) := by decide +kernel
theorem dL_law_486 : decode cL_law 486 = .ok (.invokevirtual 65, 3) := by decide +kernel
theorem dL_law_489 : decode cL_law 489 = .ok (.if_icmp .eq 239, 3) := by decide +kernel
theorem dL_law_492 : decode cL_law 492 = .ok (.iconst 0, 1) := by decide +kernel
theorem dL_law_493 : decode cL_law 493 = .ok (.ireturn, 1) := by decide +kernel
theorem dL_law_494 : decode cL_law 494 = .ok (.aload_n 1, 1) := by decide +kernel
theorem dL_law_495 : decode cL_law 495 = .ok (.aload_n 0, 1) := by decide +kernel
theorem dL_law_496 : decode cL_law 496 = .ok (.iload_n 3, 1) := by decide +kernel
theorem dL_law_497 : decode cL_law 497 = .ok (.iconst 1, 1) := by decide +kernel
theorem dL_law_498 : decode cL_law 498 = .ok (.iadd, 1) := by decide +kernel
theorem dL_law_499 : decode cL_law 499 = .ok (.iaload, 1) := by decide +kernel
theorem dL_law_500 : decode cL_law 500 = .ok (.aload_n 0, 1) := by decide +kernel
theorem dL_law_501 : decode cL_law 501 = .ok (.iload_n 3, 1) := by decide +kernel
theorem dL_law_502 : decode cL_law 502 = .ok (.iconst 2, 1) := by decide +kernel
theorem dL_law_503 : decode cL_law 503 = .ok (.iadd, 1) := by decide +kernel
theorem dL_law_504 : decode cL_law 504 = .ok (.iaload, 1) := by decide +kernel
theorem dL_law_505 : decode cL_law 505 = .ok (.aload_n 0, 1) := by decide +kernel
theorem dL_law_506 : decode cL_law 506 = .ok (.iload_n 3, 1) := by decide +kernel
theorem dL_law_507 : decode cL_law 507 = .ok (.iconst 3, 1) := by decide +kernel
theorem dL_law_508 : decode cL_law 508 = .ok (.iadd, 1) := by decide +kernel
theorem dL_law_509 : decode cL_law 509 = .ok (.iaload, 1) := by decide +kernel
theorem dL_law_510 : decode cL_law 510 = .ok (.ifCond .eq 7, 3) := by decide +kernel
theorem dL_law_513 : decode cL_law 513 = .ok (.iconst 1, 1) := by decide +kernel
theorem dL_law_514 : decode cL_law 514 = .ok (.goto 4, 3) := by decide +kernel
theorem dL_law_517 : decode cL_law 517 = .ok (.iconst 0, 1) := by decide +kernel
theorem dL_law_518 : decode cL_law 518 = .ok (.invokevirtual 66, 3) := by decide +kernel
theorem dL_law_521 : decode cL_law 521 = .ok (.aload_n 2, 1) := by decide +kernel
theorem dL_law_522 : decode cL_law 522 = .ok (.aload_n 0, 1) := by decide +kernel
theorem dL_law_523 : decode cL_law 523 = .ok (.iload_n 3, 1) := by decide +kernel
theorem dL_law_524 : decode cL_law 524 = .ok (.iconst 1, 1) := by decide +kernel
theorem dL_law_525 : decode cL_law 525 = .ok (.iadd, 1) := by decide +kernel
theorem dL_law_526 : decode cL_law 526 = .ok (.iaload, 1) := by decide +kernel
theorem dL_law_527 : decode cL_law 527 = .ok (.aload_n 0, 1) := by decide +kernel
theorem dL_law_528 : decode cL_law 528 = .ok (.iload_n 3, 1) := by decide +kernel
theorem dL_law_529 : decode cL_law 529 = .ok (.iconst 2, 1) := by decide +kernel
theorem dL_law_530 : decode cL_law 530 = .ok (.iadd, 1) := by decide +kernel
theorem dL_law_531 : decode cL_law 531 = .ok (.iaload, 1) := by decide +kernel
theorem dL_law_532 : decode cL_law 532 = .ok (.aload_n 0, 1) := by decide +kernel
theorem dL_law_533 : decode cL_law 533 = .ok (.iload_n 3, 1) := by decide +kernel
theorem dL_law_534 : decode cL_law 534 = .ok (.iconst 3, 1) := by decide +kernel
theorem dL_law_535 : decode cL_law 535 = .ok (.iadd, 1) := by decide +kernel
theorem dL_law_536 : decode cL_law 536 = .ok (.iaload, 1) := by decide +kernel
theorem dL_law_537 : decode cL_law 537 = .ok (.ifCond .eq 7, 3) := by decide +kernel
theorem dL_law_540 : decode cL_law 540 = .ok (.iconst 1, 1) := by decide +kernel
theorem dL_law_541 : decode cL_law 541 = .ok (.goto 4, 3) := by decide +kernel
theorem dL_law_544 : decode cL_law 544 = .ok (.iconst 0, 1) := by decide +kernel
theorem dL_law_545 : decode cL_law 545 = .ok (.invokevirtual 69, 3) := by decide +kernel
theorem dL_law_548 : decode cL_law 548 = .ok (.if_icmp .eq 180, 3) := by decide +kernel
theorem dL_law_551 : decode cL_law 551 = .ok (.iconst 0, 1) := by decide +kernel
theorem dL_law_552 : decode cL_law 552 = .ok (.ireturn, 1) := by decide +kernel
theorem dL_law_553 : decode cL_law 553 = .ok (.aload_n 1, 1) := by decide +kernel
theorem dL_law_554 : decode cL_law 554 = .ok (.invokevirtual 70, 3) := by decide +kernel
theorem dL_law_557 : decode cL_law 557 = .ok (.aload_n 2, 1) := by decide +kernel
theorem dL_law_558 : decode cL_law 558 = .ok (.invokevirtual 73, 3) := by decide +kernel
theorem dL_law_561 : decode cL_law 561 = .ok (.if_icmp .eq 167, 3) := by decide +kernel
theorem dL_law_564 : decode cL_law 564 = .ok (.iconst 0, 1) := by decide +kernel
theorem dL_law_565 : decode cL_law 565 = .ok (.ireturn, 1) := by decide +kernel
theorem dL_law_566 : decode cL_law 566 = .ok (.aload_n 1, 1) := by decide +kernel
theorem dL_law_567 : decode cL_law 567 = .ok (.aload_n 0, 1) := by decide +kernel
theorem dL_law_568 : decode cL_law 568 = .ok (.iload_n 3, 1) := by decide +kernel
theorem dL_law_569 : decode cL_law 569 = .ok (.iconst 1, 1) := by decide +kernel
theorem dL_law_570 : decode cL_law 570 = .ok (.iadd, 1) := by decide +kernel
theorem dL_law_571 : decode cL_law 571 = .ok (.iaload, 1) := by decide +kernel
theorem dL_law_572 : decode cL_law 572 = .ok (.aload_n 0, 1) := by decide +kernel
theorem dL_law_573 : decode cL_law 573 = .ok (.iload_n 3, 1) := by decide +kernel
theorem dL_law_574 : decode cL_law 574 = .ok (.iconst 2, 1) := by decide +kernel
theorem dL_law_575 : decode cL_law 575 = .ok (.iadd, 1) := by decide +kernel
theorem dL_law_576 : decode cL_law 576 = .ok (.iaload, 1) := by decide +kernel
theorem dL_law_577 : decode cL_law 577 = .ok (.invokevirtual 74, 3) := by decide +kernel
theorem dL_law_580 : decode cL_law 580 = .ok (.aload_n 2, 1) := by decide +kernel
theorem dL_law_581 : decode cL_law 581 = .ok (.aload_n 0, 1) := by decide +kernel
theorem dL_law_582 : decode cL_law 582 = .ok (.iload_n 3, 1) := by decide +kernel
theorem dL_law_583 : decode cL_law 583 = .ok (.iconst 1, 1) := by decide +kernel
theorem dL_law_584 : decode cL_law 584 = .ok (.iadd, 1) := by decide +kernel
theorem dL_law_585 : decode cL_law 585 = .ok (.iaload, 1) := by decide +kernel
theorem dL_law_586 : decode cL_law 586 = .ok (.aload_n 0, 1) := by decide +kernel
theorem dL_law_587 : decode cL_law 587 = .ok (.iload_n 3, 1) := by decide +kernel
theorem dL_law_588 : decode cL_law 588 = .ok (.iconst 2, 1) := by decide +kernel
theorem dL_law_589 : decode cL_law 589 = .ok (.iadd, 1) := by decide +kernel
theorem dL_law_590 : decode cL_law 590 = .ok (.iaload, 1) := by decide +kernel
theorem dL_law_591 : decode cL_law 591 = .ok (.invokevirtual 77, 3) := by decide +kernel
theorem dL_law_594 : decode cL_law 594 = .ok (.if_icmp .eq 134, 3) := by decide +kernel
theorem dL_law_597 : decode cL_law 597 = .ok (.iconst 0, 1) := by decide +kernel
theorem dL_law_598 : decode cL_law 598 = .ok (.ireturn, 1) := by decide +kernel
theorem dL_law_599 : decode cL_law 599 = .ok (.aload_n 1, 1) := by decide +kernel
theorem dL_law_600 : decode cL_law 600 = .ok (.aload_n 0, 1) := by decide +kernel
theorem dL_law_601 : decode cL_law 601 = .ok (.iload_n 3, 1) := by decide +kernel
theorem dL_law_602 : decode cL_law 602 = .ok (.iconst 1, 1) := by decide +kernel
theorem dL_law_603 : decode cL_law 603 = .ok (.iadd, 1) := by decide +kernel
theorem dL_law_604 : decode cL_law 604 = .ok (.iaload, 1) := by decide +kernel
theorem dL_law_605 : decode cL_law 605 = .ok (.invokevirtual 78, 3) := by decide +kernel
theorem dL_law_608 : decode cL_law 608 = .ok (.aload_n 2, 1) := by decide +kernel
theorem dL_law_609 : decode cL_law 609 = .ok (.aload_n 0, 1) := by decide +kernel
theorem dL_law_610 : decode cL_law 610 = .ok (.iload_n 3, 1) := by decide +kernel
theorem dL_law_611 : decode cL_law 611 = .ok (.iconst 1, 1) := by decide +kernel
theorem dL_law_612 : decode cL_law 612 = .ok (.iadd, 1) := by decide +kernel
theorem dL_law_613 : decode cL_law 613 = .ok (.iaload, 1) := by decide +kernel
theorem dL_law_614 : decode cL_law 614 = .ok (.invokevirtual 81, 3) := by decide +kernel
theorem dL_law_617 : decode cL_law 617 = .ok (.if_icmp .eq 111, 3) := by decide +kernel
theorem dL_law_620 : decode cL_law 620 = .ok (.iconst 0, 1) := by decide +kernel
theorem dL_law_621 : decode cL_law 621 = .ok (.ireturn, 1) := by decide +kernel
theorem dL_law_622 : decode cL_law 622 = .ok (.aload_n 1, 1) := by decide +kernel
theorem dL_law_623 : decode cL_law 623 = .ok (.aload_n 0, 1) := by decide +kernel
theorem dL_law_624 : decode cL_law 624 = .ok (.iload_n 3, 1) := by decide +kernel
theorem dL_law_625 : decode cL_law 625 = .ok (.iconst 1, 1) := by decide +kernel
theorem dL_law_626 : decode cL_law 626 = .ok (.iadd, 1) := by decide +kernel
theorem dL_law_627 : decode cL_law 627 = .ok (.iaload, 1) := by decide +kernel
theorem dL_law_628 : decode cL_law 628 = .ok (.aload_n 0, 1) := by decide +kernel
theorem dL_law_629 : decode cL_law 629 = .ok (.iload_n 3, 1) := by decide +kernel
theorem dL_law_630 : decode cL_law 630 = .ok (.iconst 2, 1) := by decide +kernel
theorem dL_law_631 : decode cL_law 631 = .ok (.iadd, 1) := by decide +kernel
theorem dL_law_632 : decode cL_law 632 = .ok (.iaload, 1) := by decide +kernel
theorem dL_law_633 : decode cL_law 633 = .ok (.aload_n 0, 1) := by decide +kernel
theorem dL_law_634 : decode cL_law 634 = .ok (.iload_n 3, 1) := by decide +kernel
theorem dL_law_635 : decode cL_law 635 = .ok (.iconst 3, 1) := by decide +kernel
theorem dL_law_636 : decode cL_law 636 = .ok (.iadd, 1) := by decide +kernel
theorem dL_law_637 : decode cL_law 637 = .ok (.iaload, 1) := by decide +kernel
theorem dL_law_638 : decode cL_law 638 = .ok (.invokevirtual 82, 3) := by decide +kernel
theorem dL_law_641 : decode cL_law 641 = .ok (.aload_n 2, 1) := by decide +kernel
theorem dL_law_642 : decode cL_law 642 = .ok (.aload_n 0, 1) := by decide +kernel
theorem dL_law_643 : decode cL_law 643 = .ok (.iload_n 3, 1) := by decide +kernel
theorem dL_law_644 : decode cL_law 644 = .ok (.iconst 1, 1) := by decide +kernel
theorem dL_law_645 : decode cL_law 645 = .ok (.iadd, 1) := by decide +kernel
theorem dL_law_646 : decode cL_law 646 = .ok (.iaload, 1) := by decide +kernel
theorem dL_law_647 : decode cL_law 647 = .ok (.aload_n 0, 1) := by decide +kernel
theorem dL_law_648 : decode cL_law 648 = .ok (.iload_n 3, 1) := by decide +kernel
theorem dL_law_649 : decode cL_law 649 = .ok (.iconst 2, 1) := by decide +kernel
theorem dL_law_650 : decode cL_law 650 = .ok (.iadd, 1) := by decide +kernel
theorem dL_law_651 : decode cL_law 651 = .ok (.iaload, 1) := by decide +kernel
theorem dL_law_652 : decode cL_law 652 = .ok (.aload_n 0, 1) := by decide +kernel
theorem dL_law_653 : decode cL_law 653 = .ok (.iload_n 3, 1) := by decide +kernel
theorem dL_law_654 : decode cL_law 654 = .ok (.iconst 3, 1) := by decide +kernel
theorem dL_law_655 : decode cL_law 655 = .ok (.iadd, 1) := by decide +kernel
theorem dL_law_656 : decode cL_law 656 = .ok (.iaload, 1) := by decide +kernel
theorem dL_law_657 : decode cL_law 657 = .ok (.invokevirtual 85, 3) := by decide +kernel
theorem dL_law_660 : decode cL_law 660 = .ok (.if_icmp .eq 68, 3) := by decide +kernel
theorem dL_law_663 : decode cL_law 663 = .ok (.iconst 0, 1) := by decide +kernel
theorem dL_law_664 : decode cL_law 664 = .ok (.ireturn, 1) := by decide +kernel
theorem dL_law_665 : decode cL_law 665 = .ok (.aload_n 1, 1) := by decide +kernel
theorem dL_law_666 : decode cL_law 666 = .ok (.invokevirtual 86, 3) := by decide +kernel
theorem dL_law_669 : decode cL_law 669 = .ok (.aload_n 2, 1) := by decide +kernel
theorem dL_law_670 : decode cL_law 670 = .ok (.invokevirtual 89, 3) := by decide +kernel
theorem dL_law_673 : decode cL_law 673 = .ok (.if_icmp .eq 55, 3) := by decide +kernel
theorem dL_law_676 : decode cL_law 676 = .ok (.iconst 0, 1) := by decide +kernel
theorem dL_law_677 : decode cL_law 677 = .ok (.ireturn, 1) := by decide +kernel
theorem dL_law_678 : decode cL_law 678 = .ok (.aload_n 1, 1) := by decide +kernel
theorem dL_law_679 : decode cL_law 679 = .ok (.invokevirtual 90, 3) := by decide +kernel
theorem dL_law_682 : decode cL_law 682 = .ok (.aload_n 2, 1) := by decide +kernel
theorem dL_law_683 : decode cL_law 683 = .ok (.invokevirtual 93, 3) := by decide +kernel
theorem dL_law_686 : decode cL_law 686 = .ok (.if_icmp .eq 42, 3) := by decide +kernel
theorem dL_law_689 : decode cL_law 689 = .ok (.iconst 0, 1) := by decide +kernel
theorem dL_law_690 : decode cL_law 690 = .ok (.ireturn, 1) := by decide +kernel
theorem dL_law_691 : decode cL_law 691 = .ok (.aload_n 1, 1) := by decide +kernel
theorem dL_law_692 : decode cL_law 692 = .ok (.aload_n 0, 1) := by decide +kernel
theorem dL_law_693 : decode cL_law 693 = .ok (.iload_n 3, 1) := by decide +kernel
theorem dL_law_694 : decode cL_law 694 = .ok (.iconst 1, 1) := by decide +kernel
theorem dL_law_695 : decode cL_law 695 = .ok (.iadd, 1) := by decide +kernel
theorem dL_law_696 : decode cL_law 696 = .ok (.iaload, 1) := by decide +kernel
theorem dL_law_697 : decode cL_law 697 = .ok (.invokevirtual 94, 3) := by decide +kernel
theorem dL_law_700 : decode cL_law 700 = .ok (.aload_n 2, 1) := by decide +kernel
theorem dL_law_701 : decode cL_law 701 = .ok (.aload_n 0, 1) := by decide +kernel
theorem dL_law_702 : decode cL_law 702 = .ok (.iload_n 3, 1) := by decide +kernel
theorem dL_law_703 : decode cL_law 703 = .ok (.iconst 1, 1) := by decide +kernel
theorem dL_law_704 : decode cL_law 704 = .ok (.iadd, 1) := by decide +kernel
theorem dL_law_705 : decode cL_law 705 = .ok (.iaload, 1) := by decide +kernel
theorem dL_law_706 : decode cL_law 706 = .ok (.invokevirtual 97, 3) := by decide +kernel
theorem dL_law_709 : decode cL_law 709 = .ok (.if_icmp .eq 19, 3) := by decide +kernel
theorem dL_law_712 : decode cL_law 712 = .ok (.iconst 0, 1) := by decide +kernel
theorem dL_law_713 : decode cL_law 713 = .ok (.ireturn, 1) := by decide +kernel
theorem dL_law_714 : decode cL_law 714 = .ok (.aload_n 1, 1) := by decide +kernel
theorem dL_law_715 : decode cL_law 715 = .ok (.invokevirtual 98, 3) := by decide +kernel
theorem dL_law_718 : decode cL_law 718 = .ok (.aload_n 2, 1) := by decide +kernel
theorem dL_law_719 : decode cL_law 719 = .ok (.invokevirtual 102, 3) := by decide +kernel
theorem dL_law_722 : decode cL_law 722 = .ok (.lcmp, 1) := by decide +kernel
theorem dL_law_723 : decode cL_law 723 = .ok (.ifCond .eq 5, 3) := by decide +kernel
end
section
theorem dL_law_726 : decode cL_law 726 = .ok (.iconst 0, 1) := by decide +kernel
theorem dL_law_727 : decode cL_law 727 = .ok (.ireturn, 1) := by decide +kernel
theorem dL_law_728 : decode cL_law 728 = .ok (.iinc 3 4, 3) := by decide +kernel
theorem dL_law_731 : decode cL_law 731 = .ok (.goto (-713), 3) := by decide +kernel
theorem dL_law_734 : decode cL_law 734 = .ok (.iconst 1, 1) := by decide +kernel
theorem dL_law_735 : decode cL_law 735 = .ok (.ireturn, 1) := by decide +kernel
end
