section
-- ===== PART A: goes FIRST, ahead of the names: the tables' words, and 'selects' of the private methods out of them =====
/-- a private method of a class that the tables say can be made, by its rows of tables_1 -/
def lw_okq (q : MethodName × Nat) : Prop := (q.1.cls ≠ "java/lang/invoke/MethodHandle" ∧ q.1.cls ≠ "java/lang/invoke/VarHandle") ∧ Cond.instantiable q.1.cls q.2 ∈ tables_1 ∧ Cond.privateMethod q.1 ∈ tables_1 ∧ Cond.instanceMethod q.1 ∈ tables_1
theorem lw_p0 : lw_okq (⟨"SmudgedStar", "allThings", "()I"⟩, 10) := ⟨⟨by decide +kernel, by decide +kernel⟩, List.mem_of_getElem? (i := 12) (by decide +kernel), List.mem_of_getElem? (i := 73) (by decide +kernel), List.mem_of_getElem? (i := 74) (by decide +kernel)⟩
theorem lw_p1 : lw_okq (⟨"SmudgedStar", "missesOf", "(I)I"⟩, 10) := ⟨⟨by decide +kernel, by decide +kernel⟩, List.mem_of_getElem? (i := 12) (by decide +kernel), List.mem_of_getElem? (i := 77) (by decide +kernel), List.mem_of_getElem? (i := 78) (by decide +kernel)⟩
theorem lw_p2 : lw_okq (⟨"SmudgedStar", "requireThing", "(I)V"⟩, 10) := ⟨⟨by decide +kernel, by decide +kernel⟩, List.mem_of_getElem? (i := 12) (by decide +kernel), List.mem_of_getElem? (i := 96) (by decide +kernel), List.mem_of_getElem? (i := 97) (by decide +kernel)⟩
theorem lw_p3 : lw_okq (⟨"java/lang/Throwable", "fillInStackTrace", "(I)Ljava/lang/Throwable;"⟩, 6) := ⟨⟨by decide +kernel, by decide +kernel⟩, List.mem_of_getElem? (i := 138) (by decide +kernel), List.mem_of_getElem? (i := 136) (by decide +kernel), List.mem_of_getElem? (i := 137) (by decide +kernel)⟩
theorem lw_p4 : lw_okq (⟨"SmudgedStar", "explanationsMeeting", "(I)I"⟩, 10) := ⟨⟨by decide +kernel, by decide +kernel⟩, List.mem_of_getElem? (i := 12) (by decide +kernel), List.mem_of_getElem? (i := 203) (by decide +kernel), List.mem_of_getElem? (i := 204) (by decide +kernel)⟩
theorem lw_p5 : lw_okq (⟨"SmudgedStar", "mixedWithThings", "(J)J"⟩, 10) := ⟨⟨by decide +kernel, by decide +kernel⟩, List.mem_of_getElem? (i := 12) (by decide +kernel), List.mem_of_getElem? (i := 234) (by decide +kernel), List.mem_of_getElem? (i := 235) (by decide +kernel)⟩
theorem lw_p6 : lw_okq (⟨"SmudgedStar", "clearedThings", "()I"⟩, 10) := ⟨⟨by decide +kernel, by decide +kernel⟩, List.mem_of_getElem? (i := 12) (by decide +kernel), List.mem_of_getElem? (i := 250) (by decide +kernel), List.mem_of_getElem? (i := 251) (by decide +kernel)⟩
theorem lw_p7 : lw_okq (⟨"SmudgedStar", "mixedWithNights", "(J)J"⟩, 10) := ⟨⟨by decide +kernel, by decide +kernel⟩, List.mem_of_getElem? (i := 12) (by decide +kernel), List.mem_of_getElem? (i := 262) (by decide +kernel), List.mem_of_getElem? (i := 263) (by decide +kernel)⟩
theorem lw_p8 : lw_okq (⟨"SmudgedStar", "requireNight", "(I)V"⟩, 10) := ⟨⟨by decide +kernel, by decide +kernel⟩, List.mem_of_getElem? (i := 12) (by decide +kernel), List.mem_of_getElem? (i := 270) (by decide +kernel), List.mem_of_getElem? (i := 271) (by decide +kernel)⟩
theorem lw_p9 : lw_okq (⟨"SmudgedStar", "mixedWithAstronomers", "(J)J"⟩, 10) := ⟨⟨by decide +kernel, by decide +kernel⟩, List.mem_of_getElem? (i := 12) (by decide +kernel), List.mem_of_getElem? (i := 279) (by decide +kernel), List.mem_of_getElem? (i := 280) (by decide +kernel)⟩
theorem lw_p10 : lw_okq (⟨"SmudgedStar", "requireAstronomer", "(I)V"⟩, 10) := ⟨⟨by decide +kernel, by decide +kernel⟩, List.mem_of_getElem? (i := 12) (by decide +kernel), List.mem_of_getElem? (i := 287) (by decide +kernel), List.mem_of_getElem? (i := 288) (by decide +kernel)⟩
theorem lw_p11 : lw_okq (⟨"SmudgedStar", "letBlame", "(II)V"⟩, 10) := ⟨⟨by decide +kernel, by decide +kernel⟩, List.mem_of_getElem? (i := 12) (by decide +kernel), List.mem_of_getElem? (i := 349) (by decide +kernel), List.mem_of_getElem? (i := 350) (by decide +kernel)⟩
theorem lw_p12 : lw_okq (⟨"SmudgedStar", "requireSet", "(I)V"⟩, 10) := ⟨⟨by decide +kernel, by decide +kernel⟩, List.mem_of_getElem? (i := 12) (by decide +kernel), List.mem_of_getElem? (i := 361) (by decide +kernel), List.mem_of_getElem? (i := 362) (by decide +kernel)⟩
theorem lw_p13 : lw_okq (⟨"SmudgedStar", "requireUsableSet", "(I)V"⟩, 10) := ⟨⟨by decide +kernel, by decide +kernel⟩, List.mem_of_getElem? (i := 12) (by decide +kernel), List.mem_of_getElem? (i := 373) (by decide +kernel), List.mem_of_getElem? (i := 374) (by decide +kernel)⟩
theorem lw_p14 : lw_okq (⟨"SmudgedStar", "requireRoomForNight", "()V"⟩, 10) := ⟨⟨by decide +kernel, by decide +kernel⟩, List.mem_of_getElem? (i := 12) (by decide +kernel), List.mem_of_getElem? (i := 378) (by decide +kernel), List.mem_of_getElem? (i := 379) (by decide +kernel)⟩
theorem lw_p15 : lw_okq (⟨"SmudgedStar", "countMisses", "(IZI)V"⟩, 10) := ⟨⟨by decide +kernel, by decide +kernel⟩, List.mem_of_getElem? (i := 12) (by decide +kernel), List.mem_of_getElem? (i := 383) (by decide +kernel), List.mem_of_getElem? (i := 384) (by decide +kernel)⟩
def lw_privs_1 : List (MethodName × Nat) := [(⟨"SmudgedStar", "allThings", "()I"⟩, 10), (⟨"SmudgedStar", "missesOf", "(I)I"⟩, 10), (⟨"SmudgedStar", "requireThing", "(I)V"⟩, 10), (⟨"java/lang/Throwable", "fillInStackTrace", "(I)Ljava/lang/Throwable;"⟩, 6), (⟨"SmudgedStar", "explanationsMeeting", "(I)I"⟩, 10), (⟨"SmudgedStar", "mixedWithThings", "(J)J"⟩, 10), (⟨"SmudgedStar", "clearedThings", "()I"⟩, 10), (⟨"SmudgedStar", "mixedWithNights", "(J)J"⟩, 10), (⟨"SmudgedStar", "requireNight", "(I)V"⟩, 10), (⟨"SmudgedStar", "mixedWithAstronomers", "(J)J"⟩, 10), (⟨"SmudgedStar", "requireAstronomer", "(I)V"⟩, 10), (⟨"SmudgedStar", "letBlame", "(II)V"⟩, 10), (⟨"SmudgedStar", "requireSet", "(I)V"⟩, 10), (⟨"SmudgedStar", "requireUsableSet", "(I)V"⟩, 10), (⟨"SmudgedStar", "requireRoomForNight", "()V"⟩, 10), (⟨"SmudgedStar", "countMisses", "(IZI)V"⟩, 10)]
theorem lw_r1 : ∀ q ∈ lw_privs_1, lw_okq q := List.forall_mem_cons.mpr ⟨lw_p0, List.forall_mem_cons.mpr ⟨lw_p1, List.forall_mem_cons.mpr ⟨lw_p2, List.forall_mem_cons.mpr ⟨lw_p3, List.forall_mem_cons.mpr ⟨lw_p4, List.forall_mem_cons.mpr ⟨lw_p5, List.forall_mem_cons.mpr ⟨lw_p6, List.forall_mem_cons.mpr ⟨lw_p7, List.forall_mem_cons.mpr ⟨lw_p8, List.forall_mem_cons.mpr ⟨lw_p9, List.forall_mem_cons.mpr ⟨lw_p10, List.forall_mem_cons.mpr ⟨lw_p11, List.forall_mem_cons.mpr ⟨lw_p12, List.forall_mem_cons.mpr ⟨lw_p13, List.forall_mem_cons.mpr ⟨lw_p14, List.forall_mem_cons.mpr ⟨lw_p15, fun _ h => absurd h List.not_mem_nil⟩⟩⟩⟩⟩⟩⟩⟩⟩⟩⟩⟩⟩⟩⟩⟩
theorem lw_p16 : lw_okq (⟨"SmudgedStar", "letAstronomersSee", "(IZ)I"⟩, 10) := ⟨⟨by decide +kernel, by decide +kernel⟩, List.mem_of_getElem? (i := 12) (by decide +kernel), List.mem_of_getElem? (i := 390) (by decide +kernel), List.mem_of_getElem? (i := 391) (by decide +kernel)⟩
theorem lw_p17 : lw_okq (⟨"SmudgedStar", "wouldAgreeWith", "(IZ)Z"⟩, 10) := ⟨⟨by decide +kernel, by decide +kernel⟩, List.mem_of_getElem? (i := 12) (by decide +kernel), List.mem_of_getElem? (i := 466) (by decide +kernel), List.mem_of_getElem? (i := 467) (by decide +kernel)⟩
theorem lw_p18 : lw_okq (⟨"SmudgedStarModel", "no", "(I)I"⟩, 10) := ⟨⟨by decide +kernel, by decide +kernel⟩, List.mem_of_getElem? (i := 470) (by decide +kernel), List.mem_of_getElem? (i := 515) (by decide +kernel), List.mem_of_getElem? (i := 516) (by decide +kernel)⟩
theorem lw_p19 : lw_okq (⟨"SmudgedStarModel", "isAstronomer", "(I)Z"⟩, 10) := ⟨⟨by decide +kernel, by decide +kernel⟩, List.mem_of_getElem? (i := 470) (by decide +kernel), List.mem_of_getElem? (i := 530) (by decide +kernel), List.mem_of_getElem? (i := 531) (by decide +kernel)⟩
theorem lw_p20 : lw_okq (⟨"SmudgedStarModel", "all", "()I"⟩, 10) := ⟨⟨by decide +kernel, by decide +kernel⟩, List.mem_of_getElem? (i := 470) (by decide +kernel), List.mem_of_getElem? (i := 534) (by decide +kernel), List.mem_of_getElem? (i := 535) (by decide +kernel)⟩
theorem lw_p21 : lw_okq (⟨"SmudgedStarModel", "think", "(II)V"⟩, 10) := ⟨⟨by decide +kernel, by decide +kernel⟩, List.mem_of_getElem? (i := 470) (by decide +kernel), List.mem_of_getElem? (i := 538) (by decide +kernel), List.mem_of_getElem? (i := 539) (by decide +kernel)⟩
theorem lw_p22 : lw_okq (⟨"SmudgedStarModel", "put", "(IZ)V"⟩, 10) := ⟨⟨by decide +kernel, by decide +kernel⟩, List.mem_of_getElem? (i := 470) (by decide +kernel), List.mem_of_getElem? (i := 546) (by decide +kernel), List.mem_of_getElem? (i := 547) (by decide +kernel)⟩
theorem lw_p23 : lw_okq (⟨"SmudgedStarModel", "fewest", "()I"⟩, 10) := ⟨⟨by decide +kernel, by decide +kernel⟩, List.mem_of_getElem? (i := 470) (by decide +kernel), List.mem_of_getElem? (i := 550) (by decide +kernel), List.mem_of_getElem? (i := 551) (by decide +kernel)⟩
theorem lw_p24 : lw_okq (⟨"SmudgedStarModel", "unexplained", "(I)I"⟩, 10) := ⟨⟨by decide +kernel, by decide +kernel⟩, List.mem_of_getElem? (i := 470) (by decide +kernel), List.mem_of_getElem? (i := 554) (by decide +kernel), List.mem_of_getElem? (i := 555) (by decide +kernel)⟩
theorem lw_p25 : lw_okq (⟨"SmudgedStarModel", "isNight", "(I)Z"⟩, 10) := ⟨⟨by decide +kernel, by decide +kernel⟩, List.mem_of_getElem? (i := 470) (by decide +kernel), List.mem_of_getElem? (i := 566) (by decide +kernel), List.mem_of_getElem? (i := 567) (by decide +kernel)⟩
theorem lw_p26 : lw_okq (⟨"SmudgedStarModel", "ok", "(I)I"⟩, 10) := ⟨⟨by decide +kernel, by decide +kernel⟩, List.mem_of_getElem? (i := 470) (by decide +kernel), List.mem_of_getElem? (i := 574) (by decide +kernel), List.mem_of_getElem? (i := 575) (by decide +kernel)⟩
theorem lw_p27 : lw_okq (⟨"SmudgedStarModel", "isThing", "(I)Z"⟩, 10) := ⟨⟨by decide +kernel, by decide +kernel⟩, List.mem_of_getElem? (i := 470) (by decide +kernel), List.mem_of_getElem? (i := 582) (by decide +kernel), List.mem_of_getElem? (i := 583) (by decide +kernel)⟩
theorem lw_p28 : lw_okq (⟨"SmudgedStarModel", "nightsOf", "(IZ)I"⟩, 10) := ⟨⟨by decide +kernel, by decide +kernel⟩, List.mem_of_getElem? (i := 470) (by decide +kernel), List.mem_of_getElem? (i := 586) (by decide +kernel), List.mem_of_getElem? (i := 587) (by decide +kernel)⟩
theorem lw_p29 : lw_okq (⟨"SmudgedStarModel", "cleared", "()I"⟩, 10) := ⟨⟨by decide +kernel, by decide +kernel⟩, List.mem_of_getElem? (i := 470) (by decide +kernel), List.mem_of_getElem? (i := 601) (by decide +kernel), List.mem_of_getElem? (i := 602) (by decide +kernel)⟩
theorem lw_p30 : lw_okq (⟨"SmudgedStarModel", "isNot", "(I)Z"⟩, 10) := ⟨⟨by decide +kernel, by decide +kernel⟩, List.mem_of_getElem? (i := 470) (by decide +kernel), List.mem_of_getElem? (i := 605) (by decide +kernel), List.mem_of_getElem? (i := 606) (by decide +kernel)⟩
theorem lw_p31 : lw_okq (⟨"SmudgedStarModel", "proved", "(I)Z"⟩, 10) := ⟨⟨by decide +kernel, by decide +kernel⟩, List.mem_of_getElem? (i := 470) (by decide +kernel), List.mem_of_getElem? (i := 613) (by decide +kernel), List.mem_of_getElem? (i := 614) (by decide +kernel)⟩
def lw_privs_2 : List (MethodName × Nat) := [(⟨"SmudgedStar", "letAstronomersSee", "(IZ)I"⟩, 10), (⟨"SmudgedStar", "wouldAgreeWith", "(IZ)Z"⟩, 10), (⟨"SmudgedStarModel", "no", "(I)I"⟩, 10), (⟨"SmudgedStarModel", "isAstronomer", "(I)Z"⟩, 10), (⟨"SmudgedStarModel", "all", "()I"⟩, 10), (⟨"SmudgedStarModel", "think", "(II)V"⟩, 10), (⟨"SmudgedStarModel", "put", "(IZ)V"⟩, 10), (⟨"SmudgedStarModel", "fewest", "()I"⟩, 10), (⟨"SmudgedStarModel", "unexplained", "(I)I"⟩, 10), (⟨"SmudgedStarModel", "isNight", "(I)Z"⟩, 10), (⟨"SmudgedStarModel", "ok", "(I)I"⟩, 10), (⟨"SmudgedStarModel", "isThing", "(I)Z"⟩, 10), (⟨"SmudgedStarModel", "nightsOf", "(IZ)I"⟩, 10), (⟨"SmudgedStarModel", "cleared", "()I"⟩, 10), (⟨"SmudgedStarModel", "isNot", "(I)Z"⟩, 10), (⟨"SmudgedStarModel", "proved", "(I)Z"⟩, 10)]
theorem lw_r2 : ∀ q ∈ lw_privs_2, lw_okq q := List.forall_mem_cons.mpr ⟨lw_p16, List.forall_mem_cons.mpr ⟨lw_p17, List.forall_mem_cons.mpr ⟨lw_p18, List.forall_mem_cons.mpr ⟨lw_p19, List.forall_mem_cons.mpr ⟨lw_p20, List.forall_mem_cons.mpr ⟨lw_p21, List.forall_mem_cons.mpr ⟨lw_p22, List.forall_mem_cons.mpr ⟨lw_p23, List.forall_mem_cons.mpr ⟨lw_p24, List.forall_mem_cons.mpr ⟨lw_p25, List.forall_mem_cons.mpr ⟨lw_p26, List.forall_mem_cons.mpr ⟨lw_p27, List.forall_mem_cons.mpr ⟨lw_p28, List.forall_mem_cons.mpr ⟨lw_p29, List.forall_mem_cons.mpr ⟨lw_p30, List.forall_mem_cons.mpr ⟨lw_p31, fun _ h => absurd h List.not_mem_nil⟩⟩⟩⟩⟩⟩⟩⟩⟩⟩⟩⟩⟩⟩⟩⟩
theorem lw_p32 : lw_okq (⟨"SmudgedStarModel", "withThing", "(I)I"⟩, 10) := ⟨⟨by decide +kernel, by decide +kernel⟩, List.mem_of_getElem? (i := 470) (by decide +kernel), List.mem_of_getElem? (i := 621) (by decide +kernel), List.mem_of_getElem? (i := 622) (by decide +kernel)⟩
theorem lw_p33 : lw_okq (⟨"SmudgedStarModel", "smudgesNow", "()I"⟩, 10) := ⟨⟨by decide +kernel, by decide +kernel⟩, List.mem_of_getElem? (i := 470) (by decide +kernel), List.mem_of_getElem? (i := 633) (by decide +kernel), List.mem_of_getElem? (i := 634) (by decide +kernel)⟩
theorem lw_p34 : lw_okq (⟨"SmudgedStarModel", "votes", "(I)I"⟩, 10) := ⟨⟨by decide +kernel, by decide +kernel⟩, List.mem_of_getElem? (i := 470) (by decide +kernel), List.mem_of_getElem? (i := 669) (by decide +kernel), List.mem_of_getElem? (i := 670) (by decide +kernel)⟩
theorem lw_p35 : lw_okq (⟨"SmudgedStarModel", "voted", "()I"⟩, 10) := ⟨⟨by decide +kernel, by decide +kernel⟩, List.mem_of_getElem? (i := 470) (by decide +kernel), List.mem_of_getElem? (i := 677) (by decide +kernel), List.mem_of_getElem? (i := 678) (by decide +kernel)⟩
theorem lw_p36 : lw_okq (⟨"SmudgedStarModel", "explaining", "()I"⟩, 10) := ⟨⟨by decide +kernel, by decide +kernel⟩, List.mem_of_getElem? (i := 470) (by decide +kernel), List.mem_of_getElem? (i := 693) (by decide +kernel), List.mem_of_getElem? (i := 694) (by decide +kernel)⟩
theorem lw_p37 : lw_okq (⟨"SmudgedStarModel", "inAll", "()I"⟩, 10) := ⟨⟨by decide +kernel, by decide +kernel⟩, List.mem_of_getElem? (i := 470) (by decide +kernel), List.mem_of_getElem? (i := 705) (by decide +kernel), List.mem_of_getElem? (i := 706) (by decide +kernel)⟩
theorem lw_p38 : lw_okq (⟨"SmudgedStarModel", "meeting", "(I)I"⟩, 10) := ⟨⟨by decide +kernel, by decide +kernel⟩, List.mem_of_getElem? (i := 470) (by decide +kernel), List.mem_of_getElem? (i := 718) (by decide +kernel), List.mem_of_getElem? (i := 719) (by decide +kernel)⟩
def lw_privs_3 : List (MethodName × Nat) := [(⟨"SmudgedStarModel", "withThing", "(I)I"⟩, 10), (⟨"SmudgedStarModel", "smudgesNow", "()I"⟩, 10), (⟨"SmudgedStarModel", "votes", "(I)I"⟩, 10), (⟨"SmudgedStarModel", "voted", "()I"⟩, 10), (⟨"SmudgedStarModel", "explaining", "()I"⟩, 10), (⟨"SmudgedStarModel", "inAll", "()I"⟩, 10), (⟨"SmudgedStarModel", "meeting", "(I)I"⟩, 10)]
theorem lw_r3 : ∀ q ∈ lw_privs_3, lw_okq q := List.forall_mem_cons.mpr ⟨lw_p32, List.forall_mem_cons.mpr ⟨lw_p33, List.forall_mem_cons.mpr ⟨lw_p34, List.forall_mem_cons.mpr ⟨lw_p35, List.forall_mem_cons.mpr ⟨lw_p36, List.forall_mem_cons.mpr ⟨lw_p37, List.forall_mem_cons.mpr ⟨lw_p38, fun _ h => absurd h List.not_mem_nil⟩⟩⟩⟩⟩⟩⟩
def lw_privs : List (MethodName × Nat) := lw_privs_1 ++ (lw_privs_2 ++ (lw_privs_3))
def lw_tbl : List Cond := k2_sels lw_privs ++ tables_1
theorem lw_privs_ok : ∀ q ∈ lw_privs, lw_okq q := by
  show ∀ q ∈ lw_privs_1 ++ (lw_privs_2 ++ (lw_privs_3)), lw_okq q
  exact List.forall_mem_append.mpr ⟨lw_r1, List.forall_mem_append.mpr ⟨lw_r2, lw_r3⟩⟩
/-- the streams that the claim lets the run draw from -/
abbrev lw_cs : List Choice := [Jvm.Choice.named "NaN.bits"]
theorem lw_bits : nanBits ∈ lw_cs := by first | decide | exact List.mem_cons_self | simp [lw_cs, nanBits]
-- ===== end of PART A; then your names; then what follows =====
end
section
/-! ===== BEGIN words of one list among another's, by their places ===== -/
theorem goodIn_r {big : List Cond} (ws : List Cond) (ps : List Nat) (hp : ws = ps.filterMap (fun i => big[i]?)) (h : ws.all goodWord = true) : GoodIn big ws := by
  intro w hw
  have h1 := List.all_eq_true.mp h w hw
  rw [hp] at hw
  obtain ⟨i, -, hi⟩ := List.mem_filterMap.mp hw
  have hm : w ∈ big := by first | exact List.mem_of_getElem? hi | exact List.getElem?_mem hi
  exact ⟨hm, good_of_word h1⟩
theorem goodIn_app {big a b : List Cond} (ha : GoodIn big a) (hb : GoodIn big b) : GoodIn big (a ++ b) := fun w h => (List.mem_append.mp h).elim (ha w) (hb w)
theorem goodIn_ca {big a b : List Cond} {c : Cond} (ha : GoodIn big (c :: a)) (hb : GoodIn big b) : GoodIn big (c :: (a ++ b)) := fun w h => (List.mem_cons.mp h).elim (fun e => ha w (List.mem_cons.mpr (Or.inl e))) (fun h => (List.mem_append.mp h).elim (fun h => ha w (List.mem_cons.mpr (Or.inr h))) (hb w))
theorem goodIn_sub {big ws : List Cond} (hm : ∀ w ∈ ws, w ∈ big) (h : ws.all goodWord = true) : GoodIn big ws := fun w hw => ⟨hm w hw, good_of_word (List.all_eq_true.mp h w hw)⟩
/-! ===== END ===== -/

/-! ===== BEGIN exceptions that leave a method, and their catching by the caller (launches without stack traces) ===== -/
section VXA
/-! The laws vx_back, vx_callV, vx_callS, vx_callSW, vx_throw0, vx_throwS follow proofs of the library, with one case more: JvmDerived/Free/Laws.lean (Back.of_free), Shelf42/LK1.lean (callV, callS), Shelf/KitTraced.lean (throwNew0V, throwNewS). -/
/-- where a method has thrown q: the class by its name, the cell, what was written, the world -/
def vx_T (XC : String → State → State → Prop) (st : State) (q : Addr) (t : State) (mc ms : Nat) (free : Addr → Prop) : Prop :=
  ∃ (E : String) (ce : Cell) (L : List Loc), XC E st t ∧ t.heap[q]? = some ce ∧ ce.vm = .none ∧ st.vm.findClass E = some ce.cls ∧ st.WarmedH t.vm ∧ st.sameButNew ({ t with vm := st.vm } : State) L mc ms ∧ ∀ z ∈ L, free z.base
def vx_Q (Qc : Array Value → State → Outcome → State → Prop) (XC : String → State → State → Prop) (mc ms : Nat) (free : Addr → Prop) : Array Value → State → Outcome → State → Prop := fun a st o t =>
  (Qc a st o t ∧ ∃ L, FrameEnd st o t L mc ms ∧ ∀ q ∈ L, free q.base) ∨ ∃ q, o = .threw q ∧ vx_T XC st q t mc ms free
/-- a callee that returns or throws -/
def vx_Met (l : Launch) (y : MethodName) (ws : List Cond) (rm : Room) (Pc : Array Value → State → Prop) (Qc : Array Value → State → Outcome → State → Prop) (XC : String → State → State → Prop) (mc ms : Nat) (free : Addr → Prop) : Prop :=
  MetFree l y (headSpec ws rm) Pc (fun _ _ _ _ _ => True) (vx_Q Qc XC mc ms free)
def vx_Post (XC : String → State → State → Prop) (mc ms : Nat) (free : Addr → Prop) : Pt → Array Value → Addr → Pt → Prop := fun A a q B =>
  ∃ (g : JFrame) (mk : MethodId) (t : State) (L : List Loc) (E : String) (ce : Cell), B.U.heap = t.heap ∧ B.U.vm = t.vm ∧ XC E (A.U.calling g mk a) t ∧ t.heap[q]? = some ce ∧ ce.vm = .none ∧ A.U.vm.findClass E = some ce.cls ∧ B.locs = A.locs ++ L ∧ (∀ z ∈ L, free z.base) ∧ B.cells = A.cells + mc ∧ B.slots = A.slots + ms
def vx_Back (l : Launch) (R : Room) (p : Program) (e : Env) (below : List Frame) (s : State) (sargs : Array Value) (y : MethodName) (len W9 : Nat)
    (Pre : Pt → Array Value → Prop) (Post : Pt → Array Value → Option Value → Pt → Prop) (PostX : Pt → Array Value → Addr → Pt → Prop) : Prop :=
  ∀ (m : MethodId) (meth : Method) (c : Code) (A : Pt) (g : JFrame) (ig : Instr) (mk : MethodId) (a : Array Value),
    Stand p l e R s m sargs below meth c A.U A.locs A.cells A.slots → g.method = m → g.locals.size = c.maxLocals → decode c.code g.pc = .ok (ig, len) →
    2 * g.monitorRoom + (g.stack.map fun v => v.category).sum ≤ W9 → A.U.methodNamed? y = some mk → Pre A a →
    (∃ (v : Option Value) (B : Pt), Stand p l e R s m sargs below meth c B.U B.locs B.cells B.slots ∧ Post A a v B ∧
      Steps p.tables e below (doInvoke e (A.U.setTop g) [] mk a).1 (B.U.setTop { g with pc := g.pc + len, stack := v.toList ++ g.stack })) ∨
    (∃ (q : Addr) (B : Pt), Stand p l e R s m sargs below meth c B.U B.locs B.cells B.slots ∧ PostX A a q B ∧
      Steps p.tables e below (doInvoke e (A.U.setTop g) [] mk a).1 ((B.U.setTop g).pushFrame (.throwing q)))
section Payer
variable {l : Launch} {R : Room} {p : Program} {e : Env} {below : List Frame} {s : State} {sargs : Array Value} {y : MethodName} {len W9 : Nat}
theorem vx_back {ws : List Cond} {rm : Room} {Pc : Array Value → State → Prop} {Qc : Array Value → State → Outcome → State → Prop} {XC : String → State → State → Prop} {mc ms : Nat} {free : Addr → Prop} {bytes : ByteArray} {maxL : Nat} {ret : Option FieldType}
    (hM : vx_Met l y ws rm Pc Qc XC mc ms free) (hblind : FrameBlind Pc) (hrc : rm.cells = mc) (hrs : rm.slots = ms)
    (hframes : rm.frames + 1 ≤ R.frames) (hlocals : W9 + (maxL + 11) + rm.locals ≤ R.locals)
    (hws : ∀ w ∈ ws, ∀ a' U, s.WarmedH U.vm → w.before a' U = true) (hcode : Cond.code y bytes maxL ret ∈ ws) (hinit : ∀ a' U, s.WarmedH U.vm → (Cond.initialized y.cls).before a' U = true) :
    vx_Back l R p e below s sargs y len W9 (PreOf R mc ms Pc) (PostOf Qc mc ms free) (vx_Post XC mc ms free) := by
  intro m meth c A g ig mk a X hg hsize hdg hW hn hp
  have h1 : (headSpec ws rm).pre.before a A.U = true := atoms_intro fun w hw => hws w hw _ _ X.warmed
  have h2 : (Cond.code y bytes maxL ret).before a A.U = true := hws _ hcode _ _ X.warmed
  have h3 : (Cond.initialized y.cls).before a A.U = true := hinit _ _ X.warmed
  have h4 : A.cells + (headSpec ws rm).room.cells ≤ R.cells := by rw [show (headSpec ws rm).room.cells = mc from hrc]; exact hp.1
  have h5 : A.slots + (headSpec ws rm).room.slots ≤ R.slots := by rw [show (headSpec ws rm).room.slots = ms from hrs]; exact hp.2.1
  have hPc : Pc a (A.U.calling g mk a) := hblind _ _ _ _ hp.2.2
  obtain ⟨U, Ls, c0, s0⟩ := A
  dsimp only [Pt.U, Pt.locs, Pt.cells, Pt.slots] at h1 h2 h3 h4 h5 X hn hPc ⊢
  obtain ⟨methY, cY, hmY, hcY, -, hlY, -, -, -, -⟩ := Cond.code_spec hn h2
  obtain ⟨kY, hkY, -⟩ := className_of_methodNamed hn
  have hinitY : kY.init = .initialized := Cond.initialized_spec (findClass_of_methodNamed hn) hkY h3
  have h : At U g.method c below := by rw [hg]; exact X.here
  have hlocals9 : W9 + (maxL + 11) + (headSpec ws rm).room.locals ≤ R.locals := hlocals
  have happ : (headSpec ws rm).appliesLoose y e.platform (U.calling g mk a) = true :=
    Spec.appliesLoose_calling (g := g) h hdg hn hkY hinitY
      (X.room_calling (g := g) (R' := (headSpec ws rm).room) hsize hmY hcY hframes (by rw [hlY]; omega) h4 h5) h1
  obtain ⟨mid, hmid⟩ := h.above
  have hfr : (U.setTop g).frames = (.java g :: mid) ++ below := by rw [State.frames_setTop' g h.top, hmid]; rfl
  obtain ⟨o, s₂, hsteps, -, hend, hq⟩ := Steps.callFree hM p X.admits X.cas X.clock (acts := []) hfr happ hPc trivial
  have hq' : vx_Q Qc XC mc ms free a (U.calling g mk a) o s₂ := hq
  rw [State.frames_setTop' g h.top] at hend
  obtain ⟨g₀, hg0⟩ := Option.isSome_iff_exists.mp h.top
  obtain ⟨r, hr⟩ := State.topJava?_eq_some.mp hg0
  have hr' : (({ U with heap := s₂.heap, slotsUsed := s₂.slotsUsed } : State).setVm s₂.vm).frames = .java g₀ :: r := hr
  rcases hq' with ⟨hqc, L, hfe, hL⟩ | ⟨q, rfl, E, ce, L, hx, hce, hcv, hcl, hW₂, hsm, hL⟩
  · obtain ⟨⟨v, rfl⟩, hW₂, e2, q2, q3, q4, q5, q6⟩ := id hfe
    have e3 : s₂ = ({ (U.calling g mk a).setFrames s₂.frames with heap := s₂.heap, slotsUsed := s₂.slotsUsed } : State).setVm s₂.vm := by
      have : s₂ = ({ s₂ with vm := (U.calling g mk a).vm } : State).setVm s₂.vm := rfl
      rw [e2] at this
      exact this
    obtain ⟨c₂, i₂, len₂, hc₂, hd₂, hf₂⟩ := hend
    have hW' : U.WarmedH s₂.vm := hW₂
    have hcc : c₂ = c := by
      have h1 : s₂.code? g.method = U.code? g.method := by
        rw [State.code?_eq, State.code?_eq, hW'.alike.method?]
      exact Option.some.inj (hc₂.symm.trans (h1.trans h.code))
    subst hcc
    have hlen : len₂ = len := by rw [hdg] at hd₂; cases hd₂; rfl
    subst hlen
    have hs₂ : s₂ = (({ U with heap := s₂.heap, slotsUsed := s₂.slotsUsed } : State).setVm s₂.vm).setTop { g with pc := g.pc + len₂, stack := v.toList ++ g.stack } := by
      refine e3.trans ?_
      rw [hf₂, State.calling_eq h.top, State.setFrames_setFrames, State.setTop_of_frames _ hr', hr]
      rfl
    have hsame : U.sameButNew ({ U with heap := s₂.heap, slotsUsed := s₂.slotsUsed } : State) L mc ms := by
      refine ⟨?_, q2, q3, q4, q5, q6⟩
      obtain ⟨t, ht, -⟩ := State.frames_cons hr
      show ({ U with heap := s₂.heap, slotsUsed := s₂.slotsUsed } : State) = { U.setFrames U.frames with heap := s₂.heap, slotsUsed := s₂.slotsUsed }
      rw [State.setFrames_self ht]
    subst hg
    refine Or.inl ⟨v, ⟨(({ U with heap := s₂.heap, slotsUsed := s₂.slotsUsed } : State).setVm s₂.vm), Ls ++ L, c0 + mc, s0 + ms⟩,
      ⟨X.admits, X.cas, X.clock, X.frames, X.room, X.hears, X.method, X.code, (X.here.setHeapUsed s₂.heap s₂.slotsUsed).setVm hW'.alike, X.tail, State.WarmedH.trans X.warmed hW', X.limits, X.bytes, X.same.trans (hsame.setVm s.vm)⟩,
      ⟨g, mk, s₂, L, rfl, rfl, hqc, rfl, hL, rfl, rfl⟩, ?_⟩
    show Steps p.tables e below _ ((({ U with heap := s₂.heap, slotsUsed := s₂.slotsUsed } : State).setVm s₂.vm).setTop { g with pc := g.pc + len₂, stack := v.toList ++ g.stack })
    rw [← hs₂]
    exact hsteps
  · obtain ⟨e2, q2, q3, q4, q5, q6⟩ := id hsm
    have e3 : s₂ = ({ (U.calling g mk a).setFrames s₂.frames with heap := s₂.heap, slotsUsed := s₂.slotsUsed } : State).setVm s₂.vm := by
      have : s₂ = ({ s₂ with vm := (U.calling g mk a).vm } : State).setVm s₂.vm := rfl
      rw [e2] at this
      exact this
    have hf₂ : s₂.frames = .throwing q :: .java g :: U.frames.tail := hend
    have hW' : U.WarmedH s₂.vm := hW₂
    have hs₂ : s₂ = ((({ U with heap := s₂.heap, slotsUsed := s₂.slotsUsed } : State).setVm s₂.vm).setTop g).pushFrame (.throwing q) := by
      refine e3.trans ?_
      rw [hf₂, State.calling_eq h.top, State.setFrames_setFrames, State.pushFrame, State.frames_setTop _ hr', State.setTop_of_frames _ hr', State.setFrames_setFrames, hr]
      rfl
    have hsame : U.sameButNew ({ U with heap := s₂.heap, slotsUsed := s₂.slotsUsed } : State) L mc ms := by
      refine ⟨?_, q2, q3, q4, q5, q6⟩
      obtain ⟨t, ht, -⟩ := State.frames_cons hr
      show ({ U with heap := s₂.heap, slotsUsed := s₂.slotsUsed } : State) = { U.setFrames U.frames with heap := s₂.heap, slotsUsed := s₂.slotsUsed }
      rw [State.setFrames_self ht]
    subst hg
    refine Or.inr ⟨q, ⟨(({ U with heap := s₂.heap, slotsUsed := s₂.slotsUsed } : State).setVm s₂.vm), Ls ++ L, c0 + mc, s0 + ms⟩,
      ⟨X.admits, X.cas, X.clock, X.frames, X.room, X.hears, X.method, X.code, (X.here.setHeapUsed s₂.heap s₂.slotsUsed).setVm hW'.alike, X.tail, State.WarmedH.trans X.warmed hW', X.limits, X.bytes, X.same.trans (hsame.setVm s.vm)⟩,
      ⟨g, mk, s₂, L, E, ce, rfl, rfl, hx, hce, hcv, hcl, rfl, hL, rfl, rfl⟩, ?_⟩
    show Steps p.tables e below _ (((({ U with heap := s₂.heap, slotsUsed := s₂.slotsUsed } : State).setVm s₂.vm).setTop g).pushFrame (.throwing q))
    rw [← hs₂]
    exact hsteps
end Payer
section Calls
variable {p : Program} {l : Launch} {e : Env} {R : Room} {s : State} {m : MethodId} {args : Array Value} {below : List Frame} {meth : Method} {c : Code} {T : State} {locs : List Loc} {cells slots : Nat}
theorem vx_callV (X : Stand p l e R s m args below meth c T locs cells slots) (hexec : p.tables.exec = Jvm.exec) {own C : String} {index : Nat} {y : MethodName} {bytes : ByteArray} {maxL : Nat} {ret : Option FieldType}
    (hown : s.vm.findClass own = some m.cls) (hlink : (Cond.methodLink own index y).before args s = true) (hinst : (Cond.instanceMethod y).before args s = true) (hsel : (Cond.selects C y y).before args s = true)
    (hcode : (Cond.code y bytes maxL ret).before args s = true) (hy : y.cls ≠ "java/lang/invoke/MethodHandle" ∧ y.cls ≠ "java/lang/invoke/VarHandle")
    {W9 : Nat} {Pre : Pt → Array Value → Prop} {Post : Pt → Array Value → Option Value → Pt → Prop} {PostX : Pt → Array Value → Addr → Pt → Prop} (hK : vx_Back l R p e below s args y 3 W9 Pre Post PostX)
    {b : Addr} {cellB : Cell} (hcell : T.heap[b]? = some cellB) (hobj : cellB.vm.isStatics = false) (hcls : s.vm.findClass C = some cellB.cls)
    {g : JFrame} (hg : g.method = m) (hsize : g.locals.size = c.maxLocals) {argsL rest : List Value} (hlen : ∀ sig, parseMethodDescriptor y.desc = some sig → argsL.length = sig.parameters.length)
    (hstack : g.stack = argsL.reverse ++ .ref b :: rest) (hW : 2 * g.monitorRoom + (rest.map fun v => v.category).sum ≤ W9) (hdg : decode c.code g.pc = .ok (.invokevirtual index, 3))
    (hpre : ∀ vm₁, s.WarmedH vm₁ → Pre ⟨T.setVm vm₁, locs, cells, slots⟩ (Value.ref b :: argsL).toArray) :
    (∃ (v : Option Value) (vm₁ : Vm) (B : Pt), s.WarmedH vm₁ ∧ Stand p l e R s m args below meth c B.U B.locs B.cells B.slots ∧ Post ⟨T.setVm vm₁, locs, cells, slots⟩ (Value.ref b :: argsL).toArray v B ∧
      ∀ target, Steps p.tables e below (B.U.setTop { g with pc := g.pc + 3, stack := v.toList ++ rest }) target → Steps p.tables e below (T.setTop g) target) ∨
    (∃ (q : Addr) (vm₁ : Vm) (B : Pt), s.WarmedH vm₁ ∧ Stand p l e R s m args below meth c B.U B.locs B.cells B.slots ∧ PostX ⟨T.setVm vm₁, locs, cells, slots⟩ (Value.ref b :: argsL).toArray q B ∧
      Steps p.tables e below (T.setTop g) ((B.U.setTop { g with stack := rest }).pushFrame (.throwing q))) := by
  obtain ⟨mk, methM, hnamed, hmethM, hstM, habM⟩ := Cond.instanceMethod_spec hinst
  obtain ⟨methM', cM, hmethM', -, -, -, -, -, -, hsigM⟩ := Cond.code_spec hnamed hcode
  cases hmethM.symm.trans hmethM'
  obtain ⟨c2, r2, m2, q1, q2, q3, q4, kP, hkP, hkPi⟩ := Cond.selects_spec hsel
  cases hcls.symm.trans q1
  cases (State.methodFound?_of_named hnamed hy).symm.trans q2
  cases hnamed.symm.trans q3
  have hselP : selectMethod e.platform s.vm cellB.cls mk = .method mk := by rw [Launch.admits_selectMethod X.admits]; exact q4
  obtain ⟨vm₁, X₁, hstep₁⟩ := X.invokevirtual hexec hown hlink hnamed hmethM hstM hkP hkPi hy (a := b) (cell := cellB) hcell
    (fun z h => by rw [h] at hobj; cases hobj) hselP hmethM habM hkP hkPi (g := g) hg (argsL := argsL) (rest := rest) (hlen _ hsigM) hstack hdg
  rcases hK m meth c ⟨T.setVm vm₁, locs, cells, slots⟩ { g with stack := rest } (.invokevirtual index) mk (Value.ref b :: argsL).toArray X₁ hg hsize hdg hW (X₁.named hnamed) (hpre vm₁ X₁.warmed) with ⟨v, B, X', hpost, hsteps⟩ | ⟨q, B, X', hpost, hsteps⟩
  · exact Or.inl ⟨v, vm₁, B, X₁.warmed, X', hpost, fun target h => hstep₁ _ fun acts => by rw [doInvoke_state]; exact hsteps.trans h⟩
  · exact Or.inr ⟨q, vm₁, B, X₁.warmed, X', hpost, hstep₁ _ fun acts => by rw [doInvoke_state]; exact hsteps⟩
theorem vx_callS (X : Stand p l e R s m args below meth c T locs cells slots) (hexec : p.tables.exec = Jvm.exec) {own : String} {index : Nat} {y : MethodName} {bytes : ByteArray} {maxL : Nat} {ret : Option FieldType}
    (hown : s.vm.findClass own = some m.cls) (hlink : (Cond.methodLink own index y).before args s = true) (hstat : (Cond.static y).before args s = true) (hinit : (Cond.initialized y.cls).before args s = true)
    (hcode : (Cond.code y bytes maxL ret).before args s = true) (hy : y.cls ≠ "java/lang/invoke/MethodHandle" ∧ y.cls ≠ "java/lang/invoke/VarHandle")
    {W9 : Nat} {Pre : Pt → Array Value → Prop} {Post : Pt → Array Value → Option Value → Pt → Prop} {PostX : Pt → Array Value → Addr → Pt → Prop} (hK : vx_Back l R p e below s args y 3 W9 Pre Post PostX)
    {g : JFrame} (hg : g.method = m) (hsize : g.locals.size = c.maxLocals) {argsL rest : List Value} (hlen : ∀ sig, parseMethodDescriptor y.desc = some sig → argsL.length = sig.parameters.length)
    (hstack : g.stack = argsL.reverse ++ rest) (hW : 2 * g.monitorRoom + (rest.map fun v => v.category).sum ≤ W9) (hdg : decode c.code g.pc = .ok (.invokestatic index, 3))
    (hpre : ∀ vm₁, s.WarmedH vm₁ → Pre ⟨T.setVm vm₁, locs, cells, slots⟩ argsL.toArray) :
    (∃ (v : Option Value) (vm₁ : Vm) (B : Pt), s.WarmedH vm₁ ∧ Stand p l e R s m args below meth c B.U B.locs B.cells B.slots ∧ Post ⟨T.setVm vm₁, locs, cells, slots⟩ argsL.toArray v B ∧
      ∀ target, Steps p.tables e below (B.U.setTop { g with pc := g.pc + 3, stack := v.toList ++ rest }) target → Steps p.tables e below (T.setTop g) target) ∨
    (∃ (q : Addr) (vm₁ : Vm) (B : Pt), s.WarmedH vm₁ ∧ Stand p l e R s m args below meth c B.U B.locs B.cells B.slots ∧ PostX ⟨T.setVm vm₁, locs, cells, slots⟩ argsL.toArray q B ∧
      Steps p.tables e below (T.setTop g) ((B.U.setTop { g with stack := rest }).pushFrame (.throwing q))) := by
  obtain ⟨mk, hnamed⟩ := Cond.code_named hcode
  obtain ⟨methM, cM, hmethM, -, -, -, -, -, -, hsigM⟩ := Cond.code_spec hnamed hcode
  have hstatic : methM.isStatic = true := Cond.static_spec hnamed hmethM hstat
  obtain ⟨kP, hkP, -⟩ := className_of_methodNamed hnamed
  have hinitP : kP.init = .initialized := Cond.initialized_spec (findClass_of_methodNamed hnamed) hkP hinit
  obtain ⟨vm₁, X₁, hstep₁⟩ := X.invokestatic hexec hown hlink hnamed hmethM hstatic hkP hinitP hy (g := g) hg (argsL := argsL) (rest := rest) (hlen _ hsigM) hstack hdg
  rcases hK m meth c ⟨T.setVm vm₁, locs, cells, slots⟩ { g with stack := rest } (.invokestatic index) mk argsL.toArray X₁ hg hsize hdg hW (X₁.named hnamed) (hpre vm₁ X₁.warmed) with ⟨v, B, X', hpost, hsteps⟩ | ⟨q, B, X', hpost, hsteps⟩
  · exact Or.inl ⟨v, vm₁, B, X₁.warmed, X', hpost, fun target h => hstep₁ _ fun acts => by rw [doInvoke_state]; exact hsteps.trans h⟩
  · exact Or.inr ⟨q, vm₁, B, X₁.warmed, X', hpost, hstep₁ _ fun acts => by rw [doInvoke_state]; exact hsteps⟩
end Calls
theorem vx_cls {s : State} {T : State} {vm₁ : Vm} {E : String} {k : ClassId} (hW : s.WarmedH vm₁) (h : (T.setVm vm₁).vm.findClass E = some k) : s.vm.findClass E = some k := by
  have h1 : vm₁.findClass E = some k := h
  rw [hW.alike.findClass] at h1
  exact h1
/-- the method's frame g, with q thrown over it -/
def vx_W (p : Program) (l : Launch) (e : Env) (R : Room) (s : State) (m : MethodId) (args : Array Value) (below : List Frame) (meth : Method) (c : Code) (H : Heap) (locs : List Loc) (cells slots : Nat) (Q : State → Prop) (g : JFrame) (q : Addr) : Prop :=
  ∀ T : State, T.heap = H → Stand p l e R s m args below meth c T locs cells slots → ∃ t, Steps p.tables e below ((T.setTop g).pushFrame (.throwing q)) t ∧ Q t
def vx_Run (p : Program) (l : Launch) (e : Env) (R : Room) (s : State) (m : MethodId) (args : Array Value) (below : List Frame) (meth : Method) (c : Code) (H : Heap) (locs : List Loc) (cells slots mc ms : Nat) (g : JFrame) (rest : List Value) (Qa : State → Outcome → State → Prop) (XC : String → State → State → Prop) (free : Addr → Prop) : Prop :=
  ∀ T : State, T.heap = H → Stand p l e R s m args below meth c T locs cells slots →
    (∃ (v : Option Value) (st₀ t T' : State) (L : List Loc), st₀.heap = H ∧ Stand p l e R s m args below meth c T' (locs ++ L) (cells + mc) (slots + ms) ∧ (∀ q ∈ L, free q.base) ∧ T'.heap = t.heap ∧ T'.vm = t.vm ∧ Qa st₀ (.returned v) t ∧
      Goes p e below T g T' { g with pc := g.pc + 3, stack := v.toList ++ rest }) ∨
    (∃ (q : Addr) (st₀ t T' : State) (L : List Loc) (E : String) (ce : Cell), st₀.heap = H ∧ Stand p l e R s m args below meth c T' (locs ++ L) (cells + mc) (slots + ms) ∧ (∀ z ∈ L, free z.base) ∧ T'.heap = t.heap ∧ T'.vm = t.vm ∧ XC E st₀ t ∧ t.heap[q]? = some ce ∧ ce.vm = .none ∧ s.vm.findClass E = some ce.cls ∧
      Steps p.tables e below (T.setTop g) ((T'.setTop { g with stack := rest }).pushFrame (.throwing q)))
def vx_X {S : Type} (px : S → Prop) (B : String → S → State → Prop) (A : Nat → Prop) : String → State → State → Prop := fun E st t => ∃ u : S, px u ∧ B E u t ∧ va_F A st t
section Runs
variable {p : Program} {l : Launch} {e : Env} {R : Room} {s : State} {m : MethodId} {args : Array Value} {below : List Frame} {meth : Method} {c : Code} {H : Heap} {locs : List Loc} {cells slots : Nat}
variable {y : MethodName} {bytes cc : ByteArray} {maxL nL mc ms n index : Nat} {ret : Option FieldType} {ws : List Cond} {rm : Room} {Pc : Array Value → State → Prop} {Qc : Array Value → State → Outcome → State → Prop} {XC : String → State → State → Prop} {free : Addr → Prop} {Ts : List Cond} {own C : String} {b : Addr} {As rest : List Value} {g : JFrame}
theorem vx_callBack (cb : CallB R s args own index y bytes maxL ret ws rm mc ms n) (hM : vx_Met l y ws rm Pc Qc XC mc ms free) (hbl : FrameBlind Pc) : vx_Back l R p e below s args y 3 8 (PreOf R mc ms Pc) (PostOf Qc mc ms free) (vx_Post XC mc ms free) := by
  obtain ⟨hrc, hrs, hfr, hlo, hws, hcw, -, hini, -⟩ := cb
  exact vx_back (bytes := bytes) (maxL := maxL) (ret := ret) hM hbl hrc hrs hfr hlo hws hcw (fun a' U hW => word_at hW (Or.inl (by first | rfl | simp [Cond.onTables, Cond.keeps, Cond.steady])) hini)
theorem vx_runV (S : CallFix p m c cc nL s args Ts own) (hM : vx_Met l y ws rm Pc Qc XC mc ms free) (cw : CallW R s args own C index y bytes maxL ret ws rm mc ms n) (hp : PreV s H C b Pc As)
    (hg : g.method = m) (hn : As.length = n) (hsize : g.locals.size = nL) (hstack : g.stack = As.reverse ++ .ref b :: rest) (hW : 2 * g.monitorRoom + (rest.map fun v => v.category).sum ≤ 8) (hdg : decode cc g.pc = .ok (.invokevirtual index, 3)) (hf : cells + mc ≤ R.cells ∧ slots + ms ≤ R.slots) :
    vx_Run p l e R s m args below meth c H locs cells slots mc ms g rest (Qc (Value.ref b :: As).toArray) XC free := by
  have hK : vx_Back l R p e below s args y 3 8 (PreOf R mc ms Pc) (PostOf Qc mc ms free) (vx_Post XC mc ms free) := vx_callBack cw.1 hM hp.1
  obtain ⟨⟨-, -, -, -, -, -, hcode, -, hy, hlen, hl⟩, hin, hse⟩ := cw
  obtain ⟨hx, hb, hml, ho, -⟩ := S
  obtain ⟨-, ⟨cellB, hcB, hoB, hclB⟩, hPc⟩ := hp
  intro T hT X
  rcases vx_callV X hx (C := C) (bytes := bytes) (maxL := maxL) (ret := ret) ho hl hin hse hcode hy hK (by rw [hT]; exact hcB) hoB hclB hg (hsize.trans hml.symm) (argsL := As) (rest := rest) (fun sig h => hn.trans (hlen sig h)) hstack hW (by rw [hb]; exact hdg)
    (fun vm₁ hW₁ => ⟨hf.1, hf.2, hPc (T.setVm vm₁) hT hW₁⟩) with ⟨v, vm₁, ⟨U', l2, c2, s2⟩, hW₁, X', ⟨g', mk, t, L, e1, e2, hq, h1, hL, h2, h3⟩, st⟩ | ⟨q, vm₁, ⟨U', l2, c2, s2⟩, hW₁, X', ⟨g', mk, t, L, E, ce, e1, e2, hq, hce, hcv, hcl, h1, hL, h2, h3⟩, st⟩
  · dsimp only [Pt.U, Pt.locs, Pt.cells, Pt.slots] at X' e1 e2 h1 h2 h3 st
    subst h1; subst h2; subst h3
    exact Or.inl ⟨v, (T.setVm vm₁).calling g' mk (Value.ref b :: As).toArray, t, U', L, hT, X', hL, e1, e2, hq, st⟩
  · dsimp only [Pt.U, Pt.locs, Pt.cells, Pt.slots] at X' e1 e2 h1 h2 h3 st hcl
    subst h1; subst h2; subst h3
    exact Or.inr ⟨q, (T.setVm vm₁).calling g' mk (Value.ref b :: As).toArray, t, U', L, E, ce, hT, X', hL, e1, e2, hq, hce, hcv, vx_cls hW₁ hcl, st⟩
theorem vx_runS (S : CallFix p m c cc nL s args Ts own) (hM : vx_Met l y ws rm Pc Qc XC mc ms free) (cw : CallB R s args own index y bytes maxL ret ws rm mc ms n ∧ (Cond.static y).before args s = true) (hp : PreS s H Pc As)
    (hg : g.method = m) (hn : As.length = n) (hsize : g.locals.size = nL) (hstack : g.stack = As.reverse ++ rest) (hW : 2 * g.monitorRoom + (rest.map fun v => v.category).sum ≤ 8) (hdg : decode cc g.pc = .ok (.invokestatic index, 3)) (hf : cells + mc ≤ R.cells ∧ slots + ms ≤ R.slots) :
    vx_Run p l e R s m args below meth c H locs cells slots mc ms g rest (Qc As.toArray) XC free := by
  have hK : vx_Back l R p e below s args y 3 8 (PreOf R mc ms Pc) (PostOf Qc mc ms free) (vx_Post XC mc ms free) := vx_callBack cw.1 hM hp.1
  obtain ⟨⟨-, -, -, -, -, -, hcode, hini, hy, hlen, hl⟩, hstt⟩ := cw
  obtain ⟨hx, hb, hml, ho, -⟩ := S
  intro T hT X
  rcases vx_callS X hx (bytes := bytes) (maxL := maxL) (ret := ret) ho hl hstt hini hcode hy hK hg (hsize.trans hml.symm) (argsL := As) (rest := rest) (fun sig h => hn.trans (hlen sig h)) hstack hW (by rw [hb]; exact hdg)
    (fun vm₁ hW₁ => ⟨hf.1, hf.2, hp.2 (T.setVm vm₁) hT hW₁⟩) with ⟨v, vm₁, ⟨U', l2, c2, s2⟩, hW₁, X', ⟨g', mk, t, L, e1, e2, hq, h1, hL, h2, h3⟩, st⟩ | ⟨q, vm₁, ⟨U', l2, c2, s2⟩, hW₁, X', ⟨g', mk, t, L, E, ce, e1, e2, hq, hce, hcv, hcl, h1, hL, h2, h3⟩, st⟩
  · dsimp only [Pt.U, Pt.locs, Pt.cells, Pt.slots] at X' e1 e2 h1 h2 h3 st
    subst h1; subst h2; subst h3
    exact Or.inl ⟨v, (T.setVm vm₁).calling g' mk As.toArray, t, U', L, hT, X', hL, e1, e2, hq, st⟩
  · dsimp only [Pt.U, Pt.locs, Pt.cells, Pt.slots] at X' e1 e2 h1 h2 h3 st hcl
    subst h1; subst h2; subst h3
    exact Or.inr ⟨q, (T.setVm vm₁).calling g' mk As.toArray, t, U', L, E, ce, hT, X', hL, e1, e2, hq, hce, hcv, vx_cls hW₁ hcl, st⟩
end Runs
section Rows
variable {p : Program} {l : Launch} {e : Env} {R : Room} {s : State} {m : MethodId} {args : Array Value} {below : List Frame} {meth : Method} {c : Code} {H : Heap} {locs : List Loc} {cells slots : Nat} {Q : State → Prop}
variable {mc ms : Nat} {free : Addr → Prop} {A0 A1 : Nat → Prop} {H0 : Heap} {a : Array Value} {pc : Nat} {ls : Array Slot} {st0 rest : List Value}
theorem vx_keep {st₀ t T' : State} {L : List Loc} (h0 : st₀.heap = H) (e1 : T'.heap = t.heap) (hS : va_S A0 H0 H locs) (hA : ∀ q, q < H.size → A1 q → A0 q) (hf : ∀ q, free q → A0 q) (hL : ∀ q ∈ L, free q.base) (hF : va_F A1 st₀ t) :
    H.size ≤ T'.heap.size ∧ (∀ q : Nat, q < H.size → ¬ A1 q → T'.heap[q]? = H[q]?) ∧ va_S A0 H0 T'.heap (locs ++ L) := by
  obtain ⟨hz, hk⟩ := hF
  rw [h0] at hz hk
  exact ⟨by rw [e1]; exact hz, fun q h1 h2 => by rw [e1]; exact hk q h1 h2,
    ⟨Nat.le_trans hS.1 (by rw [e1]; exact hz), fun q h1 h2 => by rw [e1, hk q (Nat.lt_of_lt_of_le h1 hS.1) (fun z => h2 (hA q (Nat.lt_of_lt_of_le h1 hS.1) z))]; exact hS.2.1 q h1 h2, fun q hq => by
      rcases List.mem_append.mp hq with h | h
      · exact hS.2.2 q h
      · exact hf _ (hL q h)⟩⟩
theorem vx_calli {S SX : Type} {post : Int32 → S → Prop} {px : SX → Prop} {B : S → State → Prop} {BX : String → SX → State → Prop} {AX : Nat → Prop} (hr : vx_Run p l e R s m args below meth c H locs cells slots mc ms (F0 m pc ls st0) rest (va_Qi post B A1 a) (vx_X px BX AX) free) (hS : va_S A0 H0 H locs) (hA : ∀ q, q < H.size → A1 q → A0 q) (hf : ∀ q, free q → A0 q) (hAX : ∀ q, q < H.size → AX q → A0 q)
    (kx : ∀ (E : String) (ce : Cell) (q9 : Addr) (u : SX) (t : State) (H1 : Heap) (locs1 : List Loc), t.heap = H1 → s.vm.Alike t.vm → px u → BX E u t → H.size ≤ H1.size → (∀ q : Nat, q < H.size → ¬ AX q → H1[q]? = H[q]?) → va_S A0 H0 H1 locs1 → H1[q9]? = some ce → ce.vm = .none → s.vm.findClass E = some ce.cls → vx_W p l e R s m args below meth c H1 locs1 (cells + mc) (slots + ms) Q (F0 m pc ls rest) q9)
    (kk : ∀ (r : Int32) (u : S) (t : State) (H1 : Heap) (locs1 : List Loc), t.heap = H1 → s.vm.Alike t.vm → post r u → B u t → H.size ≤ H1.size → (∀ q : Nat, q < H.size → ¬ A1 q → H1[q]? = H[q]?) → va_S A0 H0 H1 locs1 → W p l e R s m args below meth c H1 locs1 (cells + mc) (slots + ms) Q (F0 m (pc + 3) ls (.int r :: rest))) : W p l e R s m args below meth c H locs cells slots Q (F0 m pc ls st0) := by
  intro T hT X
  rcases hr T hT X with ⟨v, st₀, t, T', L, h0, X', hL, e1, e2, ⟨⟨r, u, hv, hp, hb⟩, hF⟩, st⟩ | ⟨q, st₀, t, T', L, E, ce, h0, X', hL, e1, e2, ⟨u, hp, hb, hF⟩, hce, hcv, hcl, st⟩
  · cases hv
    obtain ⟨k1, k2, k3⟩ := vx_keep h0 e1 hS hA hf hL hF
    obtain ⟨t2, a1, b1⟩ := kk r u t T'.heap (locs ++ L) e1.symm (by rw [← e2]; exact X'.warmed.alike) hp hb k1 k2 k3 T' rfl X'
    exact ⟨t2, st t2 a1, b1⟩
  · obtain ⟨k1, k2, k3⟩ := vx_keep h0 e1 hS hAX hf hL hF
    obtain ⟨t2, a1, b1⟩ := kx E ce q u t T'.heap (locs ++ L) e1.symm (by rw [← e2]; exact X'.warmed.alike) hp hb k1 k2 k3 (by rw [e1]; exact hce) hcv hcl T' rfl X'
    exact ⟨t2, st.trans a1, b1⟩
theorem vx_calll {S SX : Type} {post : Int64 → S → Prop} {px : SX → Prop} {B : S → State → Prop} {BX : String → SX → State → Prop} {AX : Nat → Prop} (hr : vx_Run p l e R s m args below meth c H locs cells slots mc ms (F0 m pc ls st0) rest (va_Ql post B A1 a) (vx_X px BX AX) free) (hS : va_S A0 H0 H locs) (hA : ∀ q, q < H.size → A1 q → A0 q) (hf : ∀ q, free q → A0 q) (hAX : ∀ q, q < H.size → AX q → A0 q)
    (kx : ∀ (E : String) (ce : Cell) (q9 : Addr) (u : SX) (t : State) (H1 : Heap) (locs1 : List Loc), t.heap = H1 → s.vm.Alike t.vm → px u → BX E u t → H.size ≤ H1.size → (∀ q : Nat, q < H.size → ¬ AX q → H1[q]? = H[q]?) → va_S A0 H0 H1 locs1 → H1[q9]? = some ce → ce.vm = .none → s.vm.findClass E = some ce.cls → vx_W p l e R s m args below meth c H1 locs1 (cells + mc) (slots + ms) Q (F0 m pc ls rest) q9)
    (kk : ∀ (r : Int64) (u : S) (t : State) (H1 : Heap) (locs1 : List Loc), t.heap = H1 → s.vm.Alike t.vm → post r u → B u t → H.size ≤ H1.size → (∀ q : Nat, q < H.size → ¬ A1 q → H1[q]? = H[q]?) → va_S A0 H0 H1 locs1 → W p l e R s m args below meth c H1 locs1 (cells + mc) (slots + ms) Q (F0 m (pc + 3) ls (.long r :: rest))) : W p l e R s m args below meth c H locs cells slots Q (F0 m pc ls st0) := by
  intro T hT X
  rcases hr T hT X with ⟨v, st₀, t, T', L, h0, X', hL, e1, e2, ⟨⟨r, u, hv, hp, hb⟩, hF⟩, st⟩ | ⟨q, st₀, t, T', L, E, ce, h0, X', hL, e1, e2, ⟨u, hp, hb, hF⟩, hce, hcv, hcl, st⟩
  · cases hv
    obtain ⟨k1, k2, k3⟩ := vx_keep h0 e1 hS hA hf hL hF
    obtain ⟨t2, a1, b1⟩ := kk r u t T'.heap (locs ++ L) e1.symm (by rw [← e2]; exact X'.warmed.alike) hp hb k1 k2 k3 T' rfl X'
    exact ⟨t2, st t2 a1, b1⟩
  · obtain ⟨k1, k2, k3⟩ := vx_keep h0 e1 hS hAX hf hL hF
    obtain ⟨t2, a1, b1⟩ := kx E ce q u t T'.heap (locs ++ L) e1.symm (by rw [← e2]; exact X'.warmed.alike) hp hb k1 k2 k3 (by rw [e1]; exact hce) hcv hcl T' rfl X'
    exact ⟨t2, st.trans a1, b1⟩
theorem vx_callf {S SX : Type} {post : UInt32 → S → Prop} {px : SX → Prop} {B : S → State → Prop} {BX : String → SX → State → Prop} {AX : Nat → Prop} (hr : vx_Run p l e R s m args below meth c H locs cells slots mc ms (F0 m pc ls st0) rest (va_Qf post B A1 a) (vx_X px BX AX) free) (hS : va_S A0 H0 H locs) (hA : ∀ q, q < H.size → A1 q → A0 q) (hf : ∀ q, free q → A0 q) (hAX : ∀ q, q < H.size → AX q → A0 q)
    (kx : ∀ (E : String) (ce : Cell) (q9 : Addr) (u : SX) (t : State) (H1 : Heap) (locs1 : List Loc), t.heap = H1 → s.vm.Alike t.vm → px u → BX E u t → H.size ≤ H1.size → (∀ q : Nat, q < H.size → ¬ AX q → H1[q]? = H[q]?) → va_S A0 H0 H1 locs1 → H1[q9]? = some ce → ce.vm = .none → s.vm.findClass E = some ce.cls → vx_W p l e R s m args below meth c H1 locs1 (cells + mc) (slots + ms) Q (F0 m pc ls rest) q9)
    (kk : ∀ (r : UInt32) (u : S) (t : State) (H1 : Heap) (locs1 : List Loc), t.heap = H1 → s.vm.Alike t.vm → post r u → B u t → H.size ≤ H1.size → (∀ q : Nat, q < H.size → ¬ A1 q → H1[q]? = H[q]?) → va_S A0 H0 H1 locs1 → W p l e R s m args below meth c H1 locs1 (cells + mc) (slots + ms) Q (F0 m (pc + 3) ls (.float r :: rest))) : W p l e R s m args below meth c H locs cells slots Q (F0 m pc ls st0) := by
  intro T hT X
  rcases hr T hT X with ⟨v, st₀, t, T', L, h0, X', hL, e1, e2, ⟨⟨r, u, hv, hp, hb⟩, hF⟩, st⟩ | ⟨q, st₀, t, T', L, E, ce, h0, X', hL, e1, e2, ⟨u, hp, hb, hF⟩, hce, hcv, hcl, st⟩
  · cases hv
    obtain ⟨k1, k2, k3⟩ := vx_keep h0 e1 hS hA hf hL hF
    obtain ⟨t2, a1, b1⟩ := kk r u t T'.heap (locs ++ L) e1.symm (by rw [← e2]; exact X'.warmed.alike) hp hb k1 k2 k3 T' rfl X'
    exact ⟨t2, st t2 a1, b1⟩
  · obtain ⟨k1, k2, k3⟩ := vx_keep h0 e1 hS hAX hf hL hF
    obtain ⟨t2, a1, b1⟩ := kx E ce q u t T'.heap (locs ++ L) e1.symm (by rw [← e2]; exact X'.warmed.alike) hp hb k1 k2 k3 (by rw [e1]; exact hce) hcv hcl T' rfl X'
    exact ⟨t2, st.trans a1, b1⟩
theorem vx_calld {S SX : Type} {post : UInt64 → S → Prop} {px : SX → Prop} {B : S → State → Prop} {BX : String → SX → State → Prop} {AX : Nat → Prop} (hr : vx_Run p l e R s m args below meth c H locs cells slots mc ms (F0 m pc ls st0) rest (va_Qd post B A1 a) (vx_X px BX AX) free) (hS : va_S A0 H0 H locs) (hA : ∀ q, q < H.size → A1 q → A0 q) (hf : ∀ q, free q → A0 q) (hAX : ∀ q, q < H.size → AX q → A0 q)
    (kx : ∀ (E : String) (ce : Cell) (q9 : Addr) (u : SX) (t : State) (H1 : Heap) (locs1 : List Loc), t.heap = H1 → s.vm.Alike t.vm → px u → BX E u t → H.size ≤ H1.size → (∀ q : Nat, q < H.size → ¬ AX q → H1[q]? = H[q]?) → va_S A0 H0 H1 locs1 → H1[q9]? = some ce → ce.vm = .none → s.vm.findClass E = some ce.cls → vx_W p l e R s m args below meth c H1 locs1 (cells + mc) (slots + ms) Q (F0 m pc ls rest) q9)
    (kk : ∀ (r : UInt64) (u : S) (t : State) (H1 : Heap) (locs1 : List Loc), t.heap = H1 → s.vm.Alike t.vm → post r u → B u t → H.size ≤ H1.size → (∀ q : Nat, q < H.size → ¬ A1 q → H1[q]? = H[q]?) → va_S A0 H0 H1 locs1 → W p l e R s m args below meth c H1 locs1 (cells + mc) (slots + ms) Q (F0 m (pc + 3) ls (.double r :: rest))) : W p l e R s m args below meth c H locs cells slots Q (F0 m pc ls st0) := by
  intro T hT X
  rcases hr T hT X with ⟨v, st₀, t, T', L, h0, X', hL, e1, e2, ⟨⟨r, u, hv, hp, hb⟩, hF⟩, st⟩ | ⟨q, st₀, t, T', L, E, ce, h0, X', hL, e1, e2, ⟨u, hp, hb, hF⟩, hce, hcv, hcl, st⟩
  · cases hv
    obtain ⟨k1, k2, k3⟩ := vx_keep h0 e1 hS hA hf hL hF
    obtain ⟨t2, a1, b1⟩ := kk r u t T'.heap (locs ++ L) e1.symm (by rw [← e2]; exact X'.warmed.alike) hp hb k1 k2 k3 T' rfl X'
    exact ⟨t2, st t2 a1, b1⟩
  · obtain ⟨k1, k2, k3⟩ := vx_keep h0 e1 hS hAX hf hL hF
    obtain ⟨t2, a1, b1⟩ := kx E ce q u t T'.heap (locs ++ L) e1.symm (by rw [← e2]; exact X'.warmed.alike) hp hb k1 k2 k3 (by rw [e1]; exact hce) hcv hcl T' rfl X'
    exact ⟨t2, st.trans a1, b1⟩
theorem vx_callv {S SX : Type} {post : S → Prop} {px : SX → Prop} {B : S → State → Prop} {BX : String → SX → State → Prop} {AX : Nat → Prop} (hr : vx_Run p l e R s m args below meth c H locs cells slots mc ms (F0 m pc ls st0) rest (va_Qv post B A1 a) (vx_X px BX AX) free) (hS : va_S A0 H0 H locs) (hA : ∀ q, q < H.size → A1 q → A0 q) (hf : ∀ q, free q → A0 q) (hAX : ∀ q, q < H.size → AX q → A0 q)
    (kx : ∀ (E : String) (ce : Cell) (q9 : Addr) (u : SX) (t : State) (H1 : Heap) (locs1 : List Loc), t.heap = H1 → s.vm.Alike t.vm → px u → BX E u t → H.size ≤ H1.size → (∀ q : Nat, q < H.size → ¬ AX q → H1[q]? = H[q]?) → va_S A0 H0 H1 locs1 → H1[q9]? = some ce → ce.vm = .none → s.vm.findClass E = some ce.cls → vx_W p l e R s m args below meth c H1 locs1 (cells + mc) (slots + ms) Q (F0 m pc ls rest) q9)
    (kk : ∀ (u : S) (t : State) (H1 : Heap) (locs1 : List Loc), t.heap = H1 → s.vm.Alike t.vm → post u → B u t → H.size ≤ H1.size → (∀ q : Nat, q < H.size → ¬ A1 q → H1[q]? = H[q]?) → va_S A0 H0 H1 locs1 → W p l e R s m args below meth c H1 locs1 (cells + mc) (slots + ms) Q (F0 m (pc + 3) ls (rest))) : W p l e R s m args below meth c H locs cells slots Q (F0 m pc ls st0) := by
  intro T hT X
  rcases hr T hT X with ⟨v, st₀, t, T', L, h0, X', hL, e1, e2, ⟨⟨u, hv, hp, hb⟩, hF⟩, st⟩ | ⟨q, st₀, t, T', L, E, ce, h0, X', hL, e1, e2, ⟨u, hp, hb, hF⟩, hce, hcv, hcl, st⟩
  · cases hv
    obtain ⟨k1, k2, k3⟩ := vx_keep h0 e1 hS hA hf hL hF
    obtain ⟨t2, a1, b1⟩ := kk u t T'.heap (locs ++ L) e1.symm (by rw [← e2]; exact X'.warmed.alike) hp hb k1 k2 k3 T' rfl X'
    exact ⟨t2, st t2 a1, b1⟩
  · obtain ⟨k1, k2, k3⟩ := vx_keep h0 e1 hS hAX hf hL hF
    obtain ⟨t2, a1, b1⟩ := kx E ce q u t T'.heap (locs ++ L) e1.symm (by rw [← e2]; exact X'.warmed.alike) hp hb k1 k2 k3 (by rw [e1]; exact hce) hcv hcl T' rfl X'
    exact ⟨t2, st.trans a1, b1⟩
/-- caught by the row x of this method's table; the rows ahead don't take it -/
theorem vx_catch {own name : String} {E : String} {ce : Cell} {q : Addr} (hown : s.vm.findClass own = some m.cls) (pre : List ExceptionTableEntry) (x : ExceptionTableEntry) (suf : List ExceptionTableEntry) (hsplit : c.exceptionTable.toList = pre ++ x :: suf)
    (hpass : ∀ z ∈ pre, covers z pc = false ∨ (z.catchType ≠ 0 ∧ ∃ nm : String, (Cond.classLink own z.catchType nm).before args s = true ∧ va_Nc E nm s)) (hx : covers x pc = true) (h0 : x.catchType ≠ 0)
    (hlink : (Cond.classLink own x.catchType name).before args s = true) (hcast : (Cond.castable E name).before args s = true) (hcell : H[q]? = some ce) (hv : ce.vm = .none) (hcl : s.vm.findClass E = some ce.cls)
    (kk : W p l e R s m args below meth c H locs cells slots Q (F0 m x.handlerPc ls [.ref q])) : vx_W p l e R s m args below meth c H locs cells slots Q (F0 m pc ls rest) q := by
  intro T hT X
  have hpl : e.platform.magicAccessors = ({} : Platform).magicAccessors := by rw [X.admits.platform]
  obtain ⟨c3, c4, hc3, hc4, hasg⟩ := Cond.castable_spec hcast
  cases Option.some.inj (hc3.symm.trans hcl)
  obtain ⟨c5, hc5, hcl5⟩ := Cond.classLink_spec hown hlink e.platform hpl
  cases Option.some.inj (hc4.symm.trans hc5)
  obtain ⟨vm', X', st⟩ := X.thenCaughtThrough q (g := F0 m pc ls rest) rfl (Steps.refl _) (by rw [hT]; exact hcell) (by rw [hv]; rfl) (by obtain ⟨k9, h9, -⟩ := Vm.findClass_spec hcl; exact ⟨k9, h9⟩) pre x suf hsplit
    (fun z hz => by
      rcases hpass z hz with h | ⟨hz0, nm, hl1, hn1⟩
      · exact Or.inl h
      · obtain ⟨c6, hc6, hcl6⟩ := Cond.classLink_spec hown hl1 e.platform hpl
        obtain ⟨a8, b8, h1, h2, h3⟩ := hn1
        cases Option.some.inj (h1.symm.trans hcl)
        cases Option.some.inj (h2.symm.trans hc6)
        exact Or.inr ⟨hz0, _, hcl6, h3⟩) hx (Or.inr ⟨h0, c4, hcl5, hasg⟩)
  obtain ⟨t, a1, b1⟩ := kk (T.setVm vm') hT X'
  exact ⟨t, st.trans a1, b1⟩
end Rows
section Ends
variable {p : Program} {l : Launch} {e : Env} {R : Room} {s : State} {m : MethodId} {args : Array Value} {below : List Frame} {meth : Method} {c : Code} {H : Heap} {locs : List Loc} {cells slots : Nat} {Q : State → Prop}
variable {mc ms : Nat} {free : Addr → Prop} {A0 A1 : Nat → Prop} {H0 : Heap} {a : Array Value} {ls : Array Slot} {st0 rest : List Value}
variable {Qc : Array Value → State → Outcome → State → Prop} {XC : String → State → State → Prop}
/-- what a body that may throw owes at its end -/
def vx_MQ (below : List Frame) (Qc : Array Value → State → Outcome → State → Prop) (XC : String → State → State → Prop) (a : Array Value) (s : State) (mc ms : Nat) (free : Addr → Prop) : State → Prop := fun t =>
  ∃ o, t.status = .running ∧ Ended t below o ∧ vx_Q Qc XC mc ms free a s o t
theorem vx_ret {g : JFrame} {mc ms : Nat} (k : W p l e R s m args below meth c H locs cells slots (MQ below Qc args s mc ms free) g) : W p l e R s m args below meth c H locs cells slots (vx_MQ below Qc XC args s mc ms free) g := by
  intro T hT X
  obtain ⟨t, a1, o, b1, b2, b3, b4⟩ := k T hT X
  exact ⟨t, a1, o, b1, b2, Or.inl ⟨b3, b4⟩⟩
/-- not caught here: it goes on to the caller -/
theorem vx_widen {g : JFrame} {q : Addr} {k n : Nat} (h1 : cells ≤ k) (h2 : slots ≤ n) (kk : vx_W p l e R s m args below meth c H locs k n Q g q) : vx_W p l e R s m args below meth c H locs cells slots Q g q := fun T hT X => kk T hT (stand_widen X h1 h2)
theorem vx_out {pc : Nat} {E : String} {ce : Cell} {q : Addr} {mc ms : Nat} (hout : ∀ x ∈ c.exceptionTable.toList, covers x pc = false) (hlocks : meth.locks = false) (hcell : H[q]? = some ce) (hv : ce.vm = .none) (hcl : s.vm.findClass E = some ce.cls)
    (hx : ∀ t : State, t.heap = H → s.vm.Alike t.vm → XC E s t) (hf : ∀ z ∈ locs, free z.base) (hc : cells ≤ mc) (hs : slots ≤ ms) :
    vx_W p l e R s m args below meth c H locs cells slots (vx_MQ below Qc XC args s mc ms free) (F0 m pc ls rest) q := by
  intro T hT X
  obtain ⟨st1, hrun, hend, hW, hsm⟩ := X.leaveThrown q (g := F0 m pc ls rest) rfl rfl rfl hout hlocks
  have hcell9 : (T.setFrames (.throwing q :: below)).heap[q]? = some ce := by
    show T.heap[q]? = some ce
    rw [hT]; exact hcell
  exact ⟨_, st1, .threw q, hrun, hend, Or.inr ⟨q, rfl, E, ce, locs, hx _ hT hW.alike, hcell9, hv, hcl, hW, hsm.mono hc hs, hf⟩⟩
theorem vx_frame {U : State} {k n : Nat} (h : s.sameButNew ({ U with vm := s.vm } : State) locs k n) : s.heap.size ≤ U.heap.size ∧ ∀ q : Nat, q < s.heap.size → (∀ z ∈ locs, z.base ≠ q) → U.heap[q]? = s.heap[q]? := by
  obtain ⟨-, h2, -, -, -, h6⟩ := h
  refine ⟨h2, fun q hq hz => ?_⟩
  obtain ⟨c9, e1, e2, e3, e4⟩ := h6 q _ (Array.getElem?_eq_getElem hq)
  have hs : c9.slots = (s.heap[q]).slots := Array.ext_getElem? fun i => e4 i fun hm => hz _ hm rfl
  have h9 : c9 = s.heap[q] := by
    rw [hs] at e2
    exact e2
  have e5 : U.heap[q]? = some c9 := e1
  rw [e5, h9, Array.getElem?_eq_getElem hq]
/-- the words of a throw but the four that speak of the heap -/
def vx_no (w : Cond) : Bool := decide (w ≠ .isRef (.static Bundle.tN "UNASSIGNED_STACK" Bundle.steD)) && decide (w ≠ .isRef (.static Bundle.tN "SUPPRESSED_SENTINEL" Bundle.listD)) && decide (w ≠ .laysStatic Bundle.tN "UNASSIGNED_STACK" Bundle.steD) && decide (w ≠ .laysStatic Bundle.tN "SUPPRESSED_SENTINEL" Bundle.listD)
def vx_at0 (own : String) (ic : Nat) (X : String) (names : List String) : List Cond := (Bundle.ownAtoms0 own ic X names).filter vx_no
def vx_atS (own : String) (ic : Nat) (X : String) (names : List String) : List Cond := (Bundle.ownAtoms own ic X names).filter vx_no
/-- a word that the tables alone decide, or a good one -/
def vx_ot (w : Cond) : Bool := w.onTables || goodWord w
theorem vx_ot_at {args a' : Array Value} {s U : State} {w : Cond} (hW : s.WarmedH U.vm) (hvm : s.vm = U.vm) (hg : vx_ot w = true) (h : w.before args s = true) : w.before a' U = true := by
  simp only [vx_ot, Bool.or_eq_true] at hg
  rcases hg with hg | hg
  · exact va_tabs hg hvm h
  · exact word_at hW (good_of_word hg) h
/-- a list's words: the good ones out of the method's own list, the others by premises of their own -/
theorem vx_hat {args : Array Value} {s : State} {L B : List Cond} (h1 : ∀ w ∈ L.filter goodWord, w.before args s = true) (h2 : ∀ w ∈ L.filter (fun w => !goodWord w), w ∈ B) (h3 : ∀ w ∈ B, w.before args s = true) : ∀ w ∈ L, w.before args s = true := by
  intro w hw
  by_cases g : goodWord w = true
  · exact h1 w (List.mem_filter.mpr ⟨hw, g⟩)
  · refine h3 w (h2 w (List.mem_filter.mpr ⟨hw, ?_⟩))
    show (!goodWord w) = true
    cases hgw : goodWord w
    · rfl
    · exact absurd hgw g
theorem vx_c {args : Array Value} {s : State} {w : Cond} {B : List Cond} (h : w.before args s = true) (t : ∀ w ∈ B, w.before args s = true) : ∀ w' ∈ w :: B, w'.before args s = true := fun w' h' => (List.mem_cons.mp h').elim (fun e => by rw [e]; exact h) (t w')
theorem vx_n {args : Array Value} {s : State} : ∀ w ∈ ([] : List Cond), w.before args s = true := fun _ h => nomatch h
theorem vx_own {args : Array Value} {s : State} {L : List Cond} (h1 : ∀ w ∈ L.filter vx_no, w.before args s = true)
    (hU : (Cond.isRef (.static Bundle.tN "UNASSIGNED_STACK" Bundle.steD)).before args s = true) (hN : (Cond.isRef (.static Bundle.tN "SUPPRESSED_SENTINEL" Bundle.listD)).before args s = true)
    (lU : (Cond.laysStatic Bundle.tN "UNASSIGNED_STACK" Bundle.steD).before args s = true) (lN : (Cond.laysStatic Bundle.tN "SUPPRESSED_SENTINEL" Bundle.listD).before args s = true) : ∀ w ∈ L, w.before args s = true := by
  intro w hw
  by_cases e1 : w = .isRef (.static Bundle.tN "UNASSIGNED_STACK" Bundle.steD)
  · rw [e1]; exact hU
  · by_cases e2 : w = .isRef (.static Bundle.tN "SUPPRESSED_SENTINEL" Bundle.listD)
    · rw [e2]; exact hN
    · by_cases e3 : w = .laysStatic Bundle.tN "UNASSIGNED_STACK" Bundle.steD
      · rw [e3]; exact lU
      · by_cases e4 : w = .laysStatic Bundle.tN "SUPPRESSED_SENTINEL" Bundle.listD
        · rw [e4]; exact lN
        · exact h1 w (List.mem_filter.mpr ⟨hw, by unfold vx_no; rw [decide_eq_true e1, decide_eq_true e2, decide_eq_true e3, decide_eq_true e4]; rfl⟩)
/-- where a static field lies, its class's statics cell in H -/
def vx_L (C n d : String) (A : Nat → Prop) (U : State) (H : Heap) : Prop := ∃ (c : ClassId) (k : Class) (i : Nat) (f : Field) (a : Nat) (cell : Cell), U.vm.findClass C = some c ∧ U.fieldFound? C n d = some (c, k, i, f) ∧ f.isStatic = true ∧ k.statics = some a ∧ H[a]? = some cell ∧ cell.vm.isStatics = true ∧ cell.cls = c ∧ f.slot < cell.slots.size ∧ k.staticTypes[f.slot]? = some f.type ∧ ¬ A a
theorem vx_L.moved {C n d : String} {A : Nat → Prop} {u U : State} {H : Heap} (hvm : u.vm.Alike U.vm) (h : vx_L C n d A u H) : vx_L C n d A U H := by
  obtain ⟨c, k, i, f, a, cell, h1, h2, h3, h4, h5, h6, h7, h8, h9, h10⟩ := h
  obtain ⟨k', hi', he⟩ := State.fieldFound?_setVm hvm h2
  exact ⟨c, k', i, f, a, cell, by rw [hvm.findClass]; exact h1, hi', h3, by rw [he]; exact h4, h5, h6, h7, h8, by rw [he]; exact h9, h10⟩
theorem vx_L.kept {C n d : String} {A : Nat → Prop} {U : State} {H H1 : Heap} (h : vx_L C n d A U H) (hq : ∀ a : Nat, a < H.size → ¬ A a → H1[a]? = H[a]?) : vx_L C n d A U H1 := by
  obtain ⟨c, k, i, f, a, cell, h1, h2, h3, h4, h5, h6, h7, h8, h9, h10⟩ := h
  exact ⟨c, k, i, f, a, cell, h1, h2, h3, h4, by rw [hq a (Array.getElem?_eq_some_iff.mp h5).1 h10]; exact h5, h6, h7, h8, h9, h10⟩
theorem vx_L.narrow {C n d : String} {A B : Nat → Prop} {U : State} {H : Heap} (h : vx_L C n d A U H) (hAB : ∀ q, B q → A q) : vx_L C n d B U H := by
  obtain ⟨c, k, i, f, a, cell, h1, h2, h3, h4, h5, h6, h7, h8, h9, h10⟩ := h
  exact ⟨c, k, i, f, a, cell, h1, h2, h3, h4, h5, h6, h7, h8, h9, fun z => h10 (hAB _ z)⟩
theorem vx_L.word {C n d : String} {A : Nat → Prop} {s : State} {args : Array Value} (h : vx_L C n d A s s.heap) : (Cond.laysStatic C n d).before args s = true := by
  obtain ⟨c, k, i, f, a, cell, h1, h2, h3, h4, h5, h6, h7, h8, h9, -⟩ := h
  show (Cond.laysStatic C n d).holds args s none s [] = true
  exact Cond.laysStatic_of h1 h2 h3 h4 h5 h6 h7 h8 h9
/-- .. and what it holds: null or some reference -/
def vx_Zq (C n d : String) (A : Nat → Prop) (U : State) (H : Heap) : Prop := va_Zq C n d A U H ∧ vx_L C n d A U H
theorem vx_Zq.moved {C n d : String} {A : Nat → Prop} {u U : State} {H : Heap} (hvm : u.vm.Alike U.vm) (h : vx_Zq C n d A u H) : vx_Zq C n d A U H := ⟨va_Zq.moved hvm h.1, vx_L.moved hvm h.2⟩
theorem vx_Zq.kept {C n d : String} {A : Nat → Prop} {U : State} {H H1 : Heap} (h : vx_Zq C n d A U H) (hq : ∀ a : Nat, a < H.size → ¬ A a → H1[a]? = H[a]?) : vx_Zq C n d A U H1 := ⟨va_Zq.kept h.1 hq, vx_L.kept h.2 hq⟩
theorem vx_Zq.narrow {C n d : String} {A B : Nat → Prop} {U : State} {H : Heap} (h : vx_Zq C n d A U H) (hAB : ∀ q, B q → A q) : vx_Zq C n d B U H := ⟨va_Zq.narrow h.1 hAB, vx_L.narrow h.2 hAB⟩
theorem vx_Zqof {args : Array Value} {s : State} {C n d : String} {A : Nat → Prop} (hl : (Cond.laysStatic C n d).before args s = true) (hini : (Cond.initialized C).before args s = true) (h : (Cond.isRef (.static C n d)).before args s = true) (hA : ∀ a : Nat, a < s.heap.size → ¬ A a) : vx_Zq C n d A s s.heap := by
  refine ⟨va_Zqof hl hini h hA, ?_⟩
  obtain ⟨c, k, i, f, a, cell, h1, h2, h3, h4, h5, h6, h7, h8, h9⟩ := Cond.laysStatic_spec hl
  exact ⟨c, k, i, f, a, cell, h1, h2, h3, h4, h5, h6, h7, h8, h9, hA a (Array.getElem?_eq_some_iff.mp h5).1⟩
theorem vx_isRef {C n d : String} {v : Value} {A : Nat → Prop} {s : State} {args : Array Value} (h : va_Z C n d v A s s.heap) (hv : v.isRef = true) : (Cond.isRef (.static C n d)).before args s = true := by
  obtain ⟨cf, kf, fi, f, a, cell, h1, h2, h3, h4, h5, h6, h7, -⟩ := h
  have he : (Term.static C n d).eval args s none [] s = some v := by
    simp [Term.eval, State.fieldNamed?, h1, h2, h4, h5, h6, h7]
  simp only [Cond.before, Cond.holds, Cond.value, he]
  cases v <;> simp_all [Value.isRef]
theorem vx_isRefq {C n d : String} {A : Nat → Prop} {s : State} {args : Array Value} (h : va_Zq C n d A s s.heap) : (Cond.isRef (.static C n d)).before args s = true := by
  rcases h with h | ⟨t, h⟩
  · exact vx_isRef h rfl
  · exact vx_isRef h rfl
/-- the same frame, seen from here: as if the method were called anew in this heap -/
theorem vx_rebase {T : State} (X : Stand p l e R s m args below meth c T locs cells slots) {R' : Room} (hf : R'.frames ≤ R.frames) (hl : R'.locals ≤ R.locals) (hc : cells + R'.cells ≤ R.cells) (hs : slots + R'.slots ≤ R.slots) :
    Stand p l e R' ((T.setVm s.vm).setFrames (.invoking m args :: below)) m args below meth c T [] 0 0 := by
  have htop : (T.setVm s.vm).topJava?.isSome := X.here.top
  have hF : ((T.setVm s.vm).setFrames (.invoking m args :: below)).frames = .invoking m args :: below := State.frames_setFrames _ (State.cur_lt_of_top htop)
  obtain ⟨g₀, hg0⟩ := Option.isSome_iff_exists.mp htop
  obtain ⟨r, hr⟩ := State.topJava?_eq_some.mp hg0
  have hl9 : e.platform.stackLimits (T.setVm s.vm).me = e.platform.stackLimits s.me := X.limits
  have hb9 : (T.setVm s.vm).me.stackBytes = s.me.stackBytes := X.bytes
  refine ⟨X.admits, X.cas, X.clock, hF, ?_, X.hears, X.method, X.code, X.here, X.tail, X.warmed, ?_, ?_, ?_⟩
  · have h := X.room
    have hU : ((T.setVm s.vm).setFrames (.invoking m args :: below)).localsInUse = s.localsInUse := by
      rw [State.localsInUse_invoking hF (meth := meth) (c := c) X.method X.code, State.localsInUse_invoking X.frames X.method X.code]
    simp only [State.hasRoom, Bool.and_eq_true, decide_eq_true_eq] at h ⊢
    obtain ⟨⟨⟨⟨h1, h2, h3, h4, h5, h6⟩, h7⟩, h8⟩, h9⟩ := h
    rw [X.frames, List.length_cons] at h2 h3
    have q1 := X.heapSize
    have q2 := X.used
    simp only [hF, hU, List.length_cons, State.stackLimits_setFrames, State.stackBytes_setFrames, hl9, hb9]
    refine ⟨⟨⟨⟨by omega, by omega, by omega, by omega, by omega, h6⟩, ?_⟩, ?_⟩, X.book⟩
    · show T.heap.size + R'.cells ≤ e.platform.maxCells
      omega
    · show T.slotsUsed + R'.slots ≤ e.platform.maxSlots
      omega
  · rw [State.stackLimits_setFrames]; rfl
  · rw [State.stackBytes_setFrames]; rfl
  · refine ⟨?_, Nat.le_refl _, Nat.le_refl _, ?_, ?_, fun a c9 h9 => ⟨c9, h9, rfl, rfl, fun _ _ => rfl⟩⟩
    · obtain ⟨t, ht, -⟩ := State.frames_cons hr
      show T.setVm s.vm = { ((T.setVm s.vm).setFrames (.invoking m args :: below)).setFrames (T.setVm s.vm).frames with heap := T.heap, slotsUsed := T.slotsUsed }
      rw [State.setFrames_setFrames, State.setFrames_self ht]
      rfl
    · show T.slotsUsed = T.slotsUsed + ((T.heap.toList.drop T.heap.size).map (·.slots.size)).sum
      rw [List.drop_eq_nil_of_le (Nat.le_of_eq Array.length_toList)]
      rfl
    · show ((T.heap.toList.drop T.heap.size).map (·.slots.size)).sum ≤ 0
      rw [List.drop_eq_nil_of_le (Nat.le_of_eq Array.length_toList)]
      exact Nat.le_refl _
/-- 'throw new E()': new; dup; invokespecial; athrow -/
theorem vx_throw0 {cc : ByteArray} {pc : Nat} (hexec : p.tables.exec = Jvm.exec) (hb : c.code = cc) (hl : l.stackTraces = false) {own cls : String} {names : List String} {ik ic mc ms : Nat} {A : Nat → Prop}
    (hown : s.vm.findClass own = some m.cls) (hcls : Bundle.fit cls = true) (hnames : ∀ n ∈ names, Bundle.fit n = true)
    (hk : (Cond.classLink own ik cls).before args s = true) (hini : (Cond.initialized cls).before args s = true) (hat : ∀ w ∈ vx_at0 own ic cls names, w.before args s = true)
    (hgood : ∀ w ∈ Cond.classLink own ik cls :: Cond.initialized cls :: vx_at0 own ic cls names, vx_ot w = true)
    (hU : vx_Zq Bundle.tN "UNASSIGNED_STACK" Bundle.steD A s s.heap) (hN : vx_Zq Bundle.tN "SUPPRESSED_SENTINEL" Bundle.listD A s s.heap) (hS : va_S A s.heap H locs) (hsize : ls.size = c.maxLocals)
    (d0 : decode cc pc = .ok (.new ik, 3)) (d3 : decode cc (pc + 3) = .ok (.dup, 1)) (d4 : decode cc (pc + 4) = .ok (.invokespecial ic, 3)) (d7 : decode cc (pc + 7) = .ok (.athrow, 1))
    (hout : ∀ x ∈ c.exceptionTable.toList, covers x (pc + 7) = false)
    (hRframes : names.length + 3 < R.frames) (hRlocals : (rest.map fun v => v.category).sum + (13 * (names.length + 1) + 42) ≤ R.locals) (hRcells : cells + 1 ≤ R.cells) (hRslots : slots + 6 ≤ R.slots) (hlocks : meth.locks = false)
    (hx : ∀ t : State, s.vm.Alike t.vm → H.size ≤ t.heap.size → (∀ q : Nat, q < H.size → t.heap[q]? = H[q]?) → XC cls s t)
    (hf : ∀ z ∈ locs, free z.base) (hc : cells + 1 ≤ mc) (hs : slots + 6 ≤ ms) :
    W p l e R s m args below meth c H locs cells slots (vx_MQ below Qc XC args s mc ms free) (F0 m pc ls rest) := by
  intro T hT X
  have htr : e.platform.stackTraces = false := (show e.platform.stackTraces = l.stackTraces by rw [X.admits.platform]).trans hl
  have Y := vx_rebase X (R' := { frames := R.frames, locals := R.locals, cells := 1, slots := 6 }) (Nat.le_refl _) (Nat.le_refl _) hRcells hRslots
  obtain ⟨s', hA⟩ : ∃ z, z = (T.setVm s.vm).setFrames (.invoking m args :: below) := ⟨_, rfl⟩
  rw [← hA] at Y
  have hvm : s'.vm = s.vm := by rw [hA]; rfl
  have hhp : s'.heap = H := by rw [hA]; exact hT
  have hW0 : s.WarmedH s'.vm := by rw [hvm]; exact State.WarmedH.refl s
  have hat' : ∀ w ∈ vx_at0 own ic cls names, w.before args s' = true := fun w hw => vx_ot_at hW0 hvm.symm (hgood w (List.mem_cons_of_mem _ (List.mem_cons_of_mem _ hw))) (hat w hw)
  have hk' : (Cond.classLink own ik cls).before args s' = true := vx_ot_at hW0 hvm.symm (hgood _ List.mem_cons_self) hk
  have hini' : (Cond.initialized cls).before args s' = true := vx_ot_at hW0 hvm.symm (hgood _ (List.mem_cons_of_mem _ List.mem_cons_self)) hini
  have hU' : vx_Zq Bundle.tN "UNASSIGNED_STACK" Bundle.steD A s' s'.heap := by rw [hhp]; exact vx_Zq.moved hW0.alike (hU.kept hS.2.1)
  have hN' : vx_Zq Bundle.tN "SUPPRESSED_SENTINEL" Bundle.listD A s' s'.heap := by rw [hhp]; exact vx_Zq.moved hW0.alike (hN.kept hS.2.1)
  have h : ∀ w ∈ Bundle.ownAtoms0 own ic cls names, w.before args s' = true := vx_own hat' (vx_isRefq hU'.1) (vx_isRefq hN'.1) hU'.2.word hN'.2.word
  have hown' : s'.vm.findClass own = some m.cls := by rw [hvm]; exact hown
  have hins : (Cond.instantiable cls 6).before args s' = true := h _ (by simp [Bundle.ownAtoms0])
  obtain ⟨vm₁, cX, kX, hfX, hkX, -, -, X₁, st1⟩ := Y.newCold hexec (own := own) (C := cls) (index := ik) (n := 6) hown' hk' hins hini'
    (g := F0 m pc ls rest) rfl (by rw [hb]; exact d0) (Nat.le_refl _) (Nat.le_refl _)
  generalize hT1 : (T.setVm vm₁).pushCell { cls := cX, slots := kX.instanceTypes.map defaultValue, vm := .none } = T1 at X₁ st1
  have hcat : (Value.ref T.heap.size).category = 1 := rfl
  have hcellA : T1.heap[T.heap.size]? = some (freshCell cX kX) := by rw [← hT1]; exact State.heap_pushCell_size _ _
  have d3' : decode c.code (pc + 3) = .ok (.dup, 1) := by rw [hb]; exact d3
  obtain ⟨U, hsteps, hrun, hend, hW, hsame, ce, hce, hO⟩ := X₁.ctorThrow0 hexec htr (own := own) (cls := cls) (names := names) (ic := ic) hown' hcls hnames h (fun x hx => nomatch hx) hfX hkX hcellA (by rw [hhp, hT]; exact Nat.le_refl _)
    (g := { method := m, pc := pc + 4, locals := ls, stack := .ref T.heap.size :: .ref T.heap.size :: rest, locked := none }) rfl hsize rfl rfl (rest := rest) rfl
    (by rw [hb]; exact d4) (by rw [hb]; exact d7) hout hRframes (by simp only [List.map_cons, List.sum_cons, hcat]; omega) hlocks
  obtain ⟨f1, f2⟩ := vx_frame hsame
  rw [hhp] at f1 f2
  have hWs : s.WarmedH U.vm := State.WarmedH.trans hW0 hW
  have hcl : s.vm.findClass cls = some ce.cls := by
    have h9 := hO.cls
    rw [hvm] at h9
    exact h9
  have hall : s.sameButNew ({ U with vm := s.vm } : State) locs mc ms := by
    subst hA
    obtain ⟨e1, e2⟩ := hsame
    rw [State.setFrames_setFrames] at e1
    have h2 : (T.setVm s.vm).sameButNew ({ U with vm := s.vm } : State) [] (0 + 1) (0 + 6) := ⟨e1, e2⟩
    have h3 := X.same.trans h2
    rw [List.append_nil] at h3
    exact h3.mono hc hs
  refine ⟨U, ?_, .threw T.heap.size, hrun, hend, Or.inr ⟨T.heap.size, rfl, cls, ce, locs, hx U hWs.alike f1 (fun q hq => f2 q hq (fun z hz => nomatch hz)), hce, hO.vm, hcl, hWs, hall, hf⟩⟩
  refine st1 _ ?_
  show Steps p.tables e below (T1.setTop { method := m, pc := pc + 3, locals := ls, stack := .ref T.heap.size :: rest, locked := none }) _
  jvm_step X₁.here [X₁.here.top, hexec, d3', Value.category]
  exact hsteps
/-- 'throw new E("text")': new; dup; ldc; invokespecial; athrow -/
theorem vx_throwS {cc : ByteArray} {pc : Nat} (hexec : p.tables.exec = Jvm.exec) (hb : c.code = cc) (hl : l.stackTraces = false) {own cls text : String} {names : List String} {ik is ic mc ms sa : Nat} {A : Nat → Prop}
    (hown : s.vm.findClass own = some m.cls) (hcls : Bundle.fit cls = true) (hnames : ∀ n ∈ names, Bundle.fit n = true)
    (hk : (Cond.classLink own ik cls).before args s = true) (hini : (Cond.initialized cls).before args s = true) (hstr : vk_R own is text sa s) (hat : ∀ w ∈ vx_atS own ic cls names, w.before args s = true)
    (hgood : ∀ w ∈ Cond.classLink own ik cls :: Cond.initialized cls :: vx_atS own ic cls names, vx_ot w = true)
    (hU : vx_Zq Bundle.tN "UNASSIGNED_STACK" Bundle.steD A s s.heap) (hN : vx_Zq Bundle.tN "SUPPRESSED_SENTINEL" Bundle.listD A s s.heap) (hS : va_S A s.heap H locs) (hsize : ls.size = c.maxLocals)
    (d0 : decode cc pc = .ok (.new ik, 3)) (d3 : decode cc (pc + 3) = .ok (.dup, 1)) (d4 : decode cc (pc + 4) = .ok (.ldc is, 2)) (d6 : decode cc (pc + 6) = .ok (.invokespecial ic, 3)) (d9 : decode cc (pc + 9) = .ok (.athrow, 1))
    (hout : ∀ x ∈ c.exceptionTable.toList, covers x (pc + 9) = false)
    (hRframes : names.length + 3 < R.frames) (hRlocals : (rest.map fun v => v.category).sum + (13 * (names.length + 1) + 43) ≤ R.locals) (hRcells : cells + 1 ≤ R.cells) (hRslots : slots + 6 ≤ R.slots) (hlocks : meth.locks = false)
    (hx : ∀ t : State, s.vm.Alike t.vm → H.size ≤ t.heap.size → (∀ q : Nat, q < H.size → t.heap[q]? = H[q]?) → XC cls s t)
    (hf : ∀ z ∈ locs, free z.base) (hc : cells + 1 ≤ mc) (hs : slots + 6 ≤ ms) :
    W p l e R s m args below meth c H locs cells slots (vx_MQ below Qc XC args s mc ms free) (F0 m pc ls rest) := by
  intro T hT X
  have htr : e.platform.stackTraces = false := (show e.platform.stackTraces = l.stackTraces by rw [X.admits.platform]).trans hl
  have Y := vx_rebase X (R' := { frames := R.frames, locals := R.locals, cells := 1, slots := 6 }) (Nat.le_refl _) (Nat.le_refl _) hRcells hRslots
  obtain ⟨s', hA⟩ : ∃ z, z = (T.setVm s.vm).setFrames (.invoking m args :: below) := ⟨_, rfl⟩
  rw [← hA] at Y
  have hvm : s'.vm = s.vm := by rw [hA]; rfl
  have hhp : s'.heap = H := by rw [hA]; exact hT
  have hW0 : s.WarmedH s'.vm := by rw [hvm]; exact State.WarmedH.refl s
  have hat' : ∀ w ∈ vx_atS own ic cls names, w.before args s' = true := fun w hw => vx_ot_at hW0 hvm.symm (hgood w (List.mem_cons_of_mem _ (List.mem_cons_of_mem _ hw))) (hat w hw)
  have hk' : (Cond.classLink own ik cls).before args s' = true := vx_ot_at hW0 hvm.symm (hgood _ List.mem_cons_self) hk
  have hini' : (Cond.initialized cls).before args s' = true := vx_ot_at hW0 hvm.symm (hgood _ (List.mem_cons_of_mem _ List.mem_cons_self)) hini
  have hU' : vx_Zq Bundle.tN "UNASSIGNED_STACK" Bundle.steD A s' s'.heap := by rw [hhp]; exact vx_Zq.moved hW0.alike (hU.kept hS.2.1)
  have hN' : vx_Zq Bundle.tN "SUPPRESSED_SENTINEL" Bundle.listD A s' s'.heap := by rw [hhp]; exact vx_Zq.moved hW0.alike (hN.kept hS.2.1)
  have h : ∀ w ∈ Bundle.ownAtoms own ic cls names, w.before args s' = true := vx_own hat' (vx_isRefq hU'.1) (vx_isRefq hN'.1) hU'.2.word hN'.2.word
  have hown' : s'.vm.findClass own = some m.cls := by rw [hvm]; exact hown
  have hins : (Cond.instantiable cls 6).before args s' = true := h _ (by simp [Bundle.ownAtoms])
  obtain ⟨vm₁, cX, kX, hfX, hkX, -, -, X₁, st1⟩ := Y.newCold hexec (own := own) (C := cls) (index := ik) (n := 6) hown' hk' hins hini'
    (g := F0 m pc ls rest) rfl (by rw [hb]; exact d0) (Nat.le_refl _) (Nat.le_refl _)
  generalize hT1 : (T.setVm vm₁).pushCell { cls := cX, slots := kX.instanceTypes.map defaultValue, vm := .none } = T1 at X₁ st1
  have hcat : (Value.ref T.heap.size).category = 1 := rfl
  have hcellA : T1.heap[T.heap.size]? = some (freshCell cX kX) := by rw [← hT1]; exact State.heap_pushCell_size _ _
  have d3' : decode c.code (pc + 3) = .ok (.dup, 1) := by rw [hb]; exact d3
  have d4' : decode c.code (pc + 4) = .ok (.ldc is, 2) := by rw [hb]; exact d4
  have hstr' : vk_R own is text sa s' := vk_R.warm hW0 hstr
  obtain ⟨U, hsteps, hrun, hend, hW, hsame, ce, hce, hO⟩ := X₁.ctorThrowS hexec htr (own := own) (cls := cls) (names := names) (ic := ic) hown' hcls hnames h (fun x hx => nomatch hx) hfX hkX hcellA (by rw [hhp, hT]; exact Nat.le_refl _) (msg := .ref sa) rfl
    (g := { method := m, pc := pc + 6, locals := ls, stack := .ref sa :: .ref T.heap.size :: .ref T.heap.size :: rest, locked := none }) rfl hsize rfl rfl (rest := rest) rfl
    (by rw [hb]; exact d6) (by rw [hb]; exact d9) hout hRframes (by simp only [List.map_cons, List.sum_cons, hcat]; omega) hlocks
  obtain ⟨f1, f2⟩ := vx_frame hsame
  rw [hhp] at f1 f2
  have hWs : s.WarmedH U.vm := State.WarmedH.trans hW0 hW
  have hcl : s.vm.findClass cls = some ce.cls := by
    have h9 := hO.cls
    rw [hvm] at h9
    exact h9
  have hall : s.sameButNew ({ U with vm := s.vm } : State) locs mc ms := by
    subst hA
    obtain ⟨e1, e2⟩ := hsame
    rw [State.setFrames_setFrames] at e1
    have h2 : (T.setVm s.vm).sameButNew ({ U with vm := s.vm } : State) [] (0 + 1) (0 + 6) := ⟨e1, e2⟩
    have h3 := X.same.trans h2
    rw [List.append_nil] at h3
    exact h3.mono hc hs
  refine ⟨U, ?_, .threw T.heap.size, hrun, hend, Or.inr ⟨T.heap.size, rfl, cls, ce, locs, hx U hWs.alike f1 (fun q hq => f2 q hq (fun z hz => nomatch hz)), hce, hO.vm, hcl, hWs, hall, hf⟩⟩
  refine st1 _ ?_
  show Steps p.tables e below (T1.setTop { method := m, pc := pc + 3, locals := ls, stack := .ref T.heap.size :: rest, locked := none }) _
  jvm_step X₁.here [X₁.here.top, hexec, d3', Value.category]
  exact X₁.ldcString hexec (own := own) (text := text) (index := is) (a := sa) hown' hstr'.1 hstr'.2
    (g := { method := m, pc := pc + 4, locals := ls, stack := .ref T.heap.size :: .ref T.heap.size :: rest, locked := none }) rfl d4' _ hsteps
/-- 'throw new E("text")', the text by a wide index -/
theorem vx_throwSW {cc : ByteArray} {pc : Nat} (hexec : p.tables.exec = Jvm.exec) (hb : c.code = cc) (hl : l.stackTraces = false) {own cls text : String} {names : List String} {ik is ic mc ms sa : Nat} {A : Nat → Prop}
    (hown : s.vm.findClass own = some m.cls) (hcls : Bundle.fit cls = true) (hnames : ∀ n ∈ names, Bundle.fit n = true)
    (hk : (Cond.classLink own ik cls).before args s = true) (hini : (Cond.initialized cls).before args s = true) (hstr : vk_R own is text sa s) (hat : ∀ w ∈ vx_atS own ic cls names, w.before args s = true)
    (hgood : ∀ w ∈ Cond.classLink own ik cls :: Cond.initialized cls :: vx_atS own ic cls names, vx_ot w = true)
    (hU : vx_Zq Bundle.tN "UNASSIGNED_STACK" Bundle.steD A s s.heap) (hN : vx_Zq Bundle.tN "SUPPRESSED_SENTINEL" Bundle.listD A s s.heap) (hS : va_S A s.heap H locs) (hsize : ls.size = c.maxLocals)
    (d0 : decode cc pc = .ok (.new ik, 3)) (d3 : decode cc (pc + 3) = .ok (.dup, 1)) (d4 : decode cc (pc + 4) = .ok (.ldc_w is, 3)) (d7 : decode cc (pc + 7) = .ok (.invokespecial ic, 3)) (d10 : decode cc (pc + 10) = .ok (.athrow, 1))
    (hout : ∀ x ∈ c.exceptionTable.toList, covers x (pc + 10) = false)
    (hRframes : names.length + 3 < R.frames) (hRlocals : (rest.map fun v => v.category).sum + (13 * (names.length + 1) + 43) ≤ R.locals) (hRcells : cells + 1 ≤ R.cells) (hRslots : slots + 6 ≤ R.slots) (hlocks : meth.locks = false)
    (hx : ∀ t : State, s.vm.Alike t.vm → H.size ≤ t.heap.size → (∀ q : Nat, q < H.size → t.heap[q]? = H[q]?) → XC cls s t)
    (hf : ∀ z ∈ locs, free z.base) (hc : cells + 1 ≤ mc) (hs : slots + 6 ≤ ms) :
    W p l e R s m args below meth c H locs cells slots (vx_MQ below Qc XC args s mc ms free) (F0 m pc ls rest) := by
  intro T hT X
  have htr : e.platform.stackTraces = false := (show e.platform.stackTraces = l.stackTraces by rw [X.admits.platform]).trans hl
  have Y := vx_rebase X (R' := { frames := R.frames, locals := R.locals, cells := 1, slots := 6 }) (Nat.le_refl _) (Nat.le_refl _) hRcells hRslots
  obtain ⟨s', hA⟩ : ∃ z, z = (T.setVm s.vm).setFrames (.invoking m args :: below) := ⟨_, rfl⟩
  rw [← hA] at Y
  have hvm : s'.vm = s.vm := by rw [hA]; rfl
  have hhp : s'.heap = H := by rw [hA]; exact hT
  have hW0 : s.WarmedH s'.vm := by rw [hvm]; exact State.WarmedH.refl s
  have hat' : ∀ w ∈ vx_atS own ic cls names, w.before args s' = true := fun w hw => vx_ot_at hW0 hvm.symm (hgood w (List.mem_cons_of_mem _ (List.mem_cons_of_mem _ hw))) (hat w hw)
  have hk' : (Cond.classLink own ik cls).before args s' = true := vx_ot_at hW0 hvm.symm (hgood _ List.mem_cons_self) hk
  have hini' : (Cond.initialized cls).before args s' = true := vx_ot_at hW0 hvm.symm (hgood _ (List.mem_cons_of_mem _ List.mem_cons_self)) hini
  have hU' : vx_Zq Bundle.tN "UNASSIGNED_STACK" Bundle.steD A s' s'.heap := by rw [hhp]; exact vx_Zq.moved hW0.alike (hU.kept hS.2.1)
  have hN' : vx_Zq Bundle.tN "SUPPRESSED_SENTINEL" Bundle.listD A s' s'.heap := by rw [hhp]; exact vx_Zq.moved hW0.alike (hN.kept hS.2.1)
  have h : ∀ w ∈ Bundle.ownAtoms own ic cls names, w.before args s' = true := vx_own hat' (vx_isRefq hU'.1) (vx_isRefq hN'.1) hU'.2.word hN'.2.word
  have hown' : s'.vm.findClass own = some m.cls := by rw [hvm]; exact hown
  have hins : (Cond.instantiable cls 6).before args s' = true := h _ (by simp [Bundle.ownAtoms])
  obtain ⟨vm₁, cX, kX, hfX, hkX, -, -, X₁, st1⟩ := Y.newCold hexec (own := own) (C := cls) (index := ik) (n := 6) hown' hk' hins hini'
    (g := F0 m pc ls rest) rfl (by rw [hb]; exact d0) (Nat.le_refl _) (Nat.le_refl _)
  generalize hT1 : (T.setVm vm₁).pushCell { cls := cX, slots := kX.instanceTypes.map defaultValue, vm := .none } = T1 at X₁ st1
  have hcat : (Value.ref T.heap.size).category = 1 := rfl
  have hcellA : T1.heap[T.heap.size]? = some (freshCell cX kX) := by rw [← hT1]; exact State.heap_pushCell_size _ _
  have d3' : decode c.code (pc + 3) = .ok (.dup, 1) := by rw [hb]; exact d3
  have d4' : decode c.code (pc + 4) = .ok (.ldc_w is, 3) := by rw [hb]; exact d4
  have hstr' : vk_R own is text sa s' := vk_R.warm hW0 hstr
  obtain ⟨U, hsteps, hrun, hend, hW, hsame, ce, hce, hO⟩ := X₁.ctorThrowS hexec htr (own := own) (cls := cls) (names := names) (ic := ic) hown' hcls hnames h (fun x hx => nomatch hx) hfX hkX hcellA (by rw [hhp, hT]; exact Nat.le_refl _) (msg := .ref sa) rfl
    (g := { method := m, pc := pc + 7, locals := ls, stack := .ref sa :: .ref T.heap.size :: .ref T.heap.size :: rest, locked := none }) rfl hsize rfl rfl (rest := rest) rfl
    (by rw [hb]; exact d7) (by rw [hb]; exact d10) hout hRframes (by simp only [List.map_cons, List.sum_cons, hcat]; omega) hlocks
  obtain ⟨f1, f2⟩ := vx_frame hsame
  rw [hhp] at f1 f2
  have hWs : s.WarmedH U.vm := State.WarmedH.trans hW0 hW
  have hcl : s.vm.findClass cls = some ce.cls := by
    have h9 := hO.cls
    rw [hvm] at h9
    exact h9
  have hall : s.sameButNew ({ U with vm := s.vm } : State) locs mc ms := by
    subst hA
    obtain ⟨e1, e2⟩ := hsame
    rw [State.setFrames_setFrames] at e1
    have h2 : (T.setVm s.vm).sameButNew ({ U with vm := s.vm } : State) [] (0 + 1) (0 + 6) := ⟨e1, e2⟩
    have h3 := X.same.trans h2
    rw [List.append_nil] at h3
    exact h3.mono hc hs
  refine ⟨U, ?_, .threw T.heap.size, hrun, hend, Or.inr ⟨T.heap.size, rfl, cls, ce, locs, hx U hWs.alike f1 (fun q hq => f2 q hq (fun z hz => nomatch hz)), hce, hO.vm, hcl, hWs, hall, hf⟩⟩
  refine st1 _ ?_
  show Steps p.tables e below (T1.setTop { method := m, pc := pc + 3, locals := ls, stack := .ref T.heap.size :: rest, locked := none }) _
  jvm_step X₁.here [X₁.here.top, hexec, d3', Value.category]
  exact X₁.ldcStringW hexec (own := own) (text := text) (index := is) (a := sa) hown' hstr'.1 hstr'.2
    (g := { method := m, pc := pc + 4, locals := ls, stack := .ref T.heap.size :: .ref T.heap.size :: rest, locked := none }) rfl d4' _ hsteps
end Ends
section Bodies
variable {l : Launch}
theorem vx_ofW {y : MethodName} {ws ws' : List Cond} {rm : Room} {Pc : Array Value → State → Prop} {Qc : Array Value → State → Outcome → State → Prop} {XC : String → State → State → Prop} {mc ms : Nat} {free : Addr → Prop} {cc : ByteArray} {maxL : Nat} {ret : Option FieldType}
    (hy : plainName y.cls = true) (hw : ws = Cond.code y cc maxL ret :: ws')
    (body : ∀ p e s m args below meth c s₁, BodyLoose p l y (headSpec ws rm) cc maxL ret e s m args below meth c s₁ → c.maxLocals = maxL → (∀ x ∈ c.exceptionTable.toList, False) → Pc args s →
      W p l e (headSpec ws rm).room s m args below meth c s.heap [] 0 0 (vx_MQ below Qc XC args s mc ms free) (entryFrame m args maxL)) : vx_Met l y ws rm Pc Qc XC mc ms free := by
  refine MetFree.of_bodyS (code := cc) (maxLocals := maxL) (ret := ret) hy ?_ ?_
  · intro args s m h hn
    obtain ⟨meth, c, h1, h2, h3, h4, h5, h6, -, -⟩ := Cond.code_spec hn (atoms_spec (ws := ws) h _ (by rw [hw]; exact List.mem_cons_self))
    exact ⟨meth, c, h1, h2, h3, h4, h5, h6⟩
  · intro p e s m args below meth c s₁ B hml hP _
    have hh0 : s₁.heap = s.heap := by rw [B.state]; rfl
    have ht : ∀ x ∈ c.exceptionTable.toList, False := by
      obtain ⟨meth9, c9, h1, h2, -, -, -, -, h7, -⟩ := Cond.code_spec B.named (atoms_spec (ws := ws) B.pre _ (by rw [hw]; exact List.mem_cons_self))
      cases Option.some.inj (h1.symm.trans B.method)
      cases Option.some.inj (h2.symm.trans (Stand.of_body B).code)
      intro x hx
      rw [Array.isEmpty_iff.mp h7] at hx
      cases hx
    obtain ⟨t, a1, o, b1, b2, b3⟩ := body p e s m args below meth c s₁ B hml ht hP s₁ hh0 (Stand.of_body B)
    exact ⟨t, o, a1, b1, b2, b3⟩
/-- the table of a body with handlers -/
theorem vx_table {p : Program} {x y : MethodName} {S : Spec} {cc bytes : ByteArray} {maxL maxL' : Nat} {ret ret' : Option FieldType} {e : Env} {s s₁ : State} {m : MethodId} {args : Array Value} {below : List Frame} {meth : Method} {c : Code} {hh : List (Nat × Nat × Nat × Nat)}
    (B : BodyLoose p l y S cc maxL ret e s m args below meth c s₁) (h : (Cond.codeWith y bytes maxL' ret' hh).before args s = true) : c.exceptionTable.toList = tableOf hh := by
  obtain ⟨m9, meth9, c9, hn9, h1, h2, -, -, h6, -⟩ := Cond.codeWith_spec h
  cases Option.some.inj (hn9.symm.trans B.named)
  cases Option.some.inj (h1.symm.trans B.method)
  cases Option.some.inj (h2.symm.trans (Stand.of_body B).code)
  rw [← h6, table_eq]
end Bodies
end VXA
/-! ===== END ===== -/
/-! ===== BEGIN a static call of a method with an exception table ===== -/
section VXS
variable {p : Program} {l : Launch} {e : Env} {R : Room} {s : State} {m : MethodId} {args : Array Value} {below : List Frame} {meth : Method} {c : Code} {T : State} {H : Heap} {locs : List Loc} {cells slots : Nat}
abbrev vx_CSW (R : Room) (s : State) (args : Array Value) (own : String) (index : Nat) (y : MethodName) (bytes : ByteArray) (maxL : Nat) (ret : Option FieldType) (hh : List (Nat × Nat × Nat × Nat)) (ws : List Cond) (rm : Room) (mc ms n : Nat) : Prop :=
  (rm.cells = mc ∧ rm.slots = ms ∧ rm.frames + 1 ≤ R.frames ∧ 8 + (maxL + 11) + rm.locals ≤ R.locals ∧ (∀ w ∈ ws, ∀ (a' : Array Value) (U : State), s.WarmedH U.vm → w.before a' U = true) ∧ Cond.codeWith y bytes maxL ret hh ∈ ws) ∧
  (Cond.codeWith y bytes maxL ret hh).before args s = true ∧ (Cond.initialized y.cls).before args s = true ∧ (y.cls ≠ "java/lang/invoke/MethodHandle" ∧ y.cls ≠ "java/lang/invoke/VarHandle") ∧
  (∀ sig, parseMethodDescriptor y.desc = some sig → n = sig.parameters.length) ∧ (Cond.methodLink own index y).before args s = true ∧ (Cond.static y).before args s = true
theorem vx_cwSW {own : String} {index maxL mc ms : Nat} {y : MethodName} {bytes : ByteArray} {ret : Option FieldType} {hh : List (Nat × Nat × Nat × Nat)} {Ts ws ws' : List Cond} {rm : Room} (n : Nat) (ht : ∀ w ∈ Ts, w.before args s = true) (hT : GoodIn Ts (va_wsS own index y ws)) (hw : ws = Cond.codeWith y bytes maxL ret hh :: ws') (hrc : rm.cells = mc) (hrs : rm.slots = ms)
    (hd : y.cls ≠ "java/lang/invoke/MethodHandle" ∧ y.cls ≠ "java/lang/invoke/VarHandle" ∧ (parseMethodDescriptor y.desc).map (fun d => d.parameters.length) = some n) (hR : rm.frames + 1 ≤ R.frames ∧ 8 + (maxL + 11) + rm.locals ≤ R.locals) :
    vx_CSW R s args own index y bytes maxL ret hh ws rm mc ms n := by
  have ok : ∀ w ∈ va_wsS own index y ws, w.before args s = true := fun w h => ht w (hT w h).1
  have hG : GoodIn Ts ws := fun w h => hT w (by unfold va_wsS; exact List.mem_append_right _ h)
  have hc : Cond.codeWith y bytes maxL ret hh ∈ ws := by rw [hw]; exact List.mem_cons_self
  refine ⟨⟨hrc, hrs, hR.1, hR.2, pay_in ht hG, hc⟩, ht _ (hG _ hc).1, ok _ (by simp [va_wsS]), ⟨hd.1, hd.2.1⟩, fun sig h => ?_, ok _ (by simp [va_wsS]), ok _ (by simp [va_wsS])⟩
  have h2 := hd.2.2
  rw [h] at h2
  exact (Option.some.inj h2).symm
theorem vx_callSW (X : Stand p l e R s m args below meth c T locs cells slots) (hexec : p.tables.exec = Jvm.exec) {own : String} {index : Nat} {y : MethodName} {bytes : ByteArray} {maxL : Nat} {ret : Option FieldType} {hh : List (Nat × Nat × Nat × Nat)}
    (hown : s.vm.findClass own = some m.cls) (hlink : (Cond.methodLink own index y).before args s = true) (hstat : (Cond.static y).before args s = true) (hinit : (Cond.initialized y.cls).before args s = true)
    (hcode : (Cond.codeWith y bytes maxL ret hh).before args s = true) (hy : y.cls ≠ "java/lang/invoke/MethodHandle" ∧ y.cls ≠ "java/lang/invoke/VarHandle")
    {W9 : Nat} {Pre : Pt → Array Value → Prop} {Post : Pt → Array Value → Option Value → Pt → Prop} (hK : Back l R p e below s args y 3 W9 Pre Post)
    {g : JFrame} (hg : g.method = m) (hsize : g.locals.size = c.maxLocals) {argsL rest : List Value} (hlen : ∀ sig, parseMethodDescriptor y.desc = some sig → argsL.length = sig.parameters.length)
    (hstack : g.stack = argsL.reverse ++ rest) (hW : 2 * g.monitorRoom + (rest.map fun v => v.category).sum ≤ W9) (hdg : decode c.code g.pc = .ok (.invokestatic index, 3))
    (hpre : ∀ vm₁, s.WarmedH vm₁ → Pre ⟨T.setVm vm₁, locs, cells, slots⟩ argsL.toArray) :
    ∃ (v : Option Value) (vm₁ : Vm) (B : Pt), s.WarmedH vm₁ ∧ Stand p l e R s m args below meth c B.U B.locs B.cells B.slots ∧ Post ⟨T.setVm vm₁, locs, cells, slots⟩ argsL.toArray v B ∧
      ∀ target, Steps p.tables e below (B.U.setTop { g with pc := g.pc + 3, stack := v.toList ++ rest }) target → Steps p.tables e below (T.setTop g) target := by
  obtain ⟨mk, methM, cM, hnamed, hmethM, -, -, -, -, -, -, hsigM⟩ := Cond.codeWith_spec hcode
  have hstatic : methM.isStatic = true := Cond.static_spec hnamed hmethM hstat
  obtain ⟨kP, hkP, -⟩ := className_of_methodNamed hnamed
  have hinitP : kP.init = .initialized := Cond.initialized_spec (findClass_of_methodNamed hnamed) hkP hinit
  obtain ⟨vm₁, X₁, hstep₁⟩ := X.invokestatic hexec hown hlink hnamed hmethM hstatic hkP hinitP hy (g := g) hg (argsL := argsL) (rest := rest) (hlen _ hsigM) hstack hdg
  obtain ⟨v, B, X', hpost, hsteps⟩ := hK m meth c ⟨T.setVm vm₁, locs, cells, slots⟩ { g with stack := rest } (.invokestatic index) mk argsL.toArray X₁ hg hsize hdg hW (X₁.named hnamed) (hpre vm₁ X₁.warmed)
  exact ⟨v, vm₁, B, X₁.warmed, X', hpost, fun target h => hstep₁ _ fun acts => by rw [doInvoke_state]; exact hsteps.trans h⟩
theorem vx_runSW {y : MethodName} {bytes cc : ByteArray} {maxL nL mc ms n index : Nat} {ret : Option FieldType} {hh : List (Nat × Nat × Nat × Nat)} {ws : List Cond} {rm : Room} {Pc : Array Value → State → Prop} {Qc : Array Value → State → Outcome → State → Prop} {free : Addr → Prop} {Ts : List Cond} {own : String} {As rest : List Value} {g : JFrame}
    (S : CallFix p m c cc nL s args Ts own) (hM : Met l y ws rm Pc Qc mc ms free) (cw : vx_CSW R s args own index y bytes maxL ret hh ws rm mc ms n) (hp : PreS s H Pc As)
    (hg : g.method = m) (hn : As.length = n) (hsize : g.locals.size = nL) (hstack : g.stack = As.reverse ++ rest) (hW : 2 * g.monitorRoom + (rest.map fun v => v.category).sum ≤ 8) (hdg : decode cc g.pc = .ok (.invokestatic index, 3)) (hf : cells + mc ≤ R.cells ∧ slots + ms ≤ R.slots) :
    va_Run p l e R s m args below meth c H locs cells slots mc ms g rest (Qc As.toArray) (free) := by
  obtain ⟨⟨hrc, hrs, hfr, hlo, hws, hcw⟩, hcode, hini, hy, hlen, hl, hstt⟩ := cw
  have hK : Back l R p e below s args y 3 8 (PreOf R mc ms Pc) (PostOf Qc mc ms free) := va_backW (hh := hh) (bytes := bytes) (maxL := maxL) (ret := ret) hM hp.1 hrc hrs hfr hlo hws hcw (fun a' U hW => word_at hW (Or.inl (by first | rfl | simp [Cond.onTables, Cond.keeps, Cond.steady])) hini)
  obtain ⟨hx, hb, hml, ho, -⟩ := S
  intro T hT X
  obtain ⟨v, vm₁, ⟨U', l2, c2, s2⟩, hW₁, X', ⟨g', mk, t, L, e1, e2, hq, h1, hL, h2, h3⟩, st⟩ := vx_callSW X hx (hh := hh) (bytes := bytes) (maxL := maxL) (ret := ret) ho hl hstt hini hcode hy hK hg (hsize.trans hml.symm) (argsL := As) (rest := rest) (fun sig h => hn.trans (hlen sig h)) hstack hW (by rw [hb]; exact hdg)
    (fun vm₁ hW₁ => ⟨hf.1, hf.2, hp.2 (T.setVm vm₁) hT hW₁⟩)
  dsimp only [Pt.U, Pt.locs, Pt.cells, Pt.slots] at X' e1 e2 h1 h2 h3 st
  subst h1; subst h2; subst h3
  exact ⟨v, (T.setVm vm₁).calling g' mk As.toArray, t, U', L, hT, X', hL, e1, e2, hq, st⟩
/-- not caught here, past rows that name other classes: it goes on to the caller -/
theorem vx_outP {p : Program} {l : Launch} {e : Env} {R : Room} {s : State} {m : MethodId} {args : Array Value} {below : List Frame} {meth : Method} {c : Code} {H : Heap} {locs : List Loc} {cells slots : Nat} {free : Addr → Prop} {ls : Array Slot} {rest : List Value} {Qc : Array Value → State → Outcome → State → Prop} {XC : String → State → State → Prop}
    {pc : Nat} {own E : String} {ce : Cell} {q : Addr} {mc ms : Nat} (hown : s.vm.findClass own = some m.cls) (hlocks : meth.locks = false)
    (hpass : ∀ z ∈ c.exceptionTable.toList, covers z pc = false ∨ (z.catchType ≠ 0 ∧ ∃ nm : String, (Cond.classLink own z.catchType nm).before args s = true ∧ va_Nc E nm s)) (hcell : H[q]? = some ce) (hv : ce.vm = .none) (hcl : s.vm.findClass E = some ce.cls)
    (hx : ∀ t : State, t.heap = H → s.vm.Alike t.vm → XC E s t) (hf : ∀ z ∈ locs, free z.base) (hc : cells ≤ mc) (hs : slots ≤ ms) :
    vx_W p l e R s m args below meth c H locs cells slots (vx_MQ below Qc XC args s mc ms free) (F0 m pc ls rest) q := by
  intro T hT X
  have hpl : e.platform.magicAccessors = ({} : Platform).magicAccessors := by rw [X.admits.platform]
  obtain ⟨vm', hW', X', st⟩ := X.outThrough hlocks q (g := F0 m pc ls rest) rfl rfl rfl (cell := ce) (by rw [hT]; exact hcell) (by rw [hv]; rfl)
    (by obtain ⟨k9, h9, -⟩ := Vm.findClass_spec hcl; exact ⟨k9, h9⟩) (fun z hz => by
      rcases hpass z hz with h | ⟨hz0, nm, hl1, hn1⟩
      · exact Or.inl h
      · obtain ⟨c6, hc6, hcl6⟩ := Cond.classLink_spec hown hl1 e.platform hpl
        obtain ⟨a8, b8, h1, h2, h3⟩ := hn1
        cases Option.some.inj (h1.symm.trans hcl)
        cases Option.some.inj (h2.symm.trans hc6)
        exact Or.inr ⟨hz0, _, hcl6, h3⟩)
  obtain ⟨g₀, hfr⟩ := X'.frames_eq
  have hcell9 : ((T.setVm vm').setFrames (.throwing q :: below)).heap[q]? = some ce := by
    show T.heap[q]? = some ce
    rw [hT]; exact hcell
  have hend : Ended ((T.setVm vm').setFrames (.throwing q :: below)) below (.threw q) := State.frames_setFrames _ (State.cur_lt_of_frames hfr)
  refine ⟨(T.setVm vm').setFrames (.throwing q :: below), ?_, .threw q, X'.here.running, hend, Or.inr ⟨q, rfl, E, ce, locs, hx _ hT (X'.ends _).1.alike, hcell9, hv, hcl, (X'.ends _).1, (X'.ends _).2.mono hc hs, hf⟩⟩
  rw [X.pushThrowing_eq]
  exact st
/-- a thing of a world lies in the heap -/
theorem vx_lt {D : va_G} {cl : List vw_C} {ws : va_W} {H1 : Heap} (h : va_P D cl ws H1) {k : Nat} {q : Nat × va_E} (hk : ws[k]? = some q) : q.1 < H1.size := (h k q hk).lt
end VXS
/-! ===== END ===== -/
/-! ===== BEGIN methods with a table of their own: called by a name, returning or throwing ===== -/
section VXH
/-! vx_backW, vx_callVX, vx_callSX, vx_callVW, vx_runVW, vx_runVX, vx_runSX, vx_ofWH follow the same proofs as their sisters above (Free/Laws.lean, Shelf42/LK1.lean); vx_outP calls Shelf42/NT130.lean (outThrough). -/
section
variable {l : Launch} {R : Room} {p : Program} {e : Env} {below : List Frame} {s : State} {sargs : Array Value} {y : MethodName} {len W9 : Nat}
theorem vx_backW {ws : List Cond} {rm : Room} {Pc : Array Value → State → Prop} {Qc : Array Value → State → Outcome → State → Prop} {XC : String → State → State → Prop} {mc ms : Nat} {free : Addr → Prop} {bytes : ByteArray} {maxL : Nat} {ret : Option FieldType} {hh : List (Nat × Nat × Nat × Nat)}
    (hM : vx_Met l y ws rm Pc Qc XC mc ms free) (hblind : FrameBlind Pc) (hrc : rm.cells = mc) (hrs : rm.slots = ms)
    (hframes : rm.frames + 1 ≤ R.frames) (hlocals : W9 + (maxL + 11) + rm.locals ≤ R.locals)
    (hws : ∀ w ∈ ws, ∀ a' U, s.WarmedH U.vm → w.before a' U = true) (hcode : Cond.codeWith y bytes maxL ret hh ∈ ws) (hinit : ∀ a' U, s.WarmedH U.vm → (Cond.initialized y.cls).before a' U = true) :
    vx_Back l R p e below s sargs y len W9 (PreOf R mc ms Pc) (PostOf Qc mc ms free) (vx_Post XC mc ms free) := by
  intro m meth c A g ig mk a X hg hsize hdg hW hn hp
  have h1 : (headSpec ws rm).pre.before a A.U = true := atoms_intro fun w hw => hws w hw _ _ X.warmed
  have h2 : (Cond.codeWith y bytes maxL ret hh).before a A.U = true := hws _ hcode _ _ X.warmed
  have h3 : (Cond.initialized y.cls).before a A.U = true := hinit _ _ X.warmed
  have h4 : A.cells + (headSpec ws rm).room.cells ≤ R.cells := by rw [show (headSpec ws rm).room.cells = mc from hrc]; exact hp.1
  have h5 : A.slots + (headSpec ws rm).room.slots ≤ R.slots := by rw [show (headSpec ws rm).room.slots = ms from hrs]; exact hp.2.1
  have hPc : Pc a (A.U.calling g mk a) := hblind _ _ _ _ hp.2.2
  obtain ⟨U, Ls, c0, s0⟩ := A
  dsimp only [Pt.U, Pt.locs, Pt.cells, Pt.slots] at h1 h2 h3 h4 h5 X hn hPc ⊢
  obtain ⟨m9, methY, cY, hn9, hmY, hcY, -, hlY, -⟩ := Cond.codeWith_spec h2
  cases Option.some.inj (hn9.symm.trans hn)
  obtain ⟨kY, hkY, -⟩ := className_of_methodNamed hn
  have hinitY : kY.init = .initialized := Cond.initialized_spec (findClass_of_methodNamed hn) hkY h3
  have h : At U g.method c below := by rw [hg]; exact X.here
  have hlocals9 : W9 + (maxL + 11) + (headSpec ws rm).room.locals ≤ R.locals := hlocals
  have happ : (headSpec ws rm).appliesLoose y e.platform (U.calling g mk a) = true :=
    Spec.appliesLoose_calling (g := g) h hdg hn hkY hinitY
      (X.room_calling (g := g) (R' := (headSpec ws rm).room) hsize hmY hcY hframes (by rw [hlY]; omega) h4 h5) h1
  obtain ⟨mid, hmid⟩ := h.above
  have hfr : (U.setTop g).frames = (.java g :: mid) ++ below := by rw [State.frames_setTop' g h.top, hmid]; rfl
  obtain ⟨o, s₂, hsteps, -, hend, hq⟩ := Steps.callFree hM p X.admits X.cas X.clock (acts := []) hfr happ hPc trivial
  have hq' : vx_Q Qc XC mc ms free a (U.calling g mk a) o s₂ := hq
  rw [State.frames_setTop' g h.top] at hend
  obtain ⟨g₀, hg0⟩ := Option.isSome_iff_exists.mp h.top
  obtain ⟨r, hr⟩ := State.topJava?_eq_some.mp hg0
  have hr' : (({ U with heap := s₂.heap, slotsUsed := s₂.slotsUsed } : State).setVm s₂.vm).frames = .java g₀ :: r := hr
  rcases hq' with ⟨hqc, L, hfe, hL⟩ | ⟨q, rfl, E, ce, L, hx, hce, hcv, hcl, hW₂, hsm, hL⟩
  · obtain ⟨⟨v, rfl⟩, hW₂, e2, q2, q3, q4, q5, q6⟩ := id hfe
    have e3 : s₂ = ({ (U.calling g mk a).setFrames s₂.frames with heap := s₂.heap, slotsUsed := s₂.slotsUsed } : State).setVm s₂.vm := by
      have : s₂ = ({ s₂ with vm := (U.calling g mk a).vm } : State).setVm s₂.vm := rfl
      rw [e2] at this
      exact this
    obtain ⟨c₂, i₂, len₂, hc₂, hd₂, hf₂⟩ := hend
    have hW' : U.WarmedH s₂.vm := hW₂
    have hcc : c₂ = c := by
      have h1 : s₂.code? g.method = U.code? g.method := by
        rw [State.code?_eq, State.code?_eq, hW'.alike.method?]
      exact Option.some.inj (hc₂.symm.trans (h1.trans h.code))
    subst hcc
    have hlen : len₂ = len := by rw [hdg] at hd₂; cases hd₂; rfl
    subst hlen
    have hs₂ : s₂ = (({ U with heap := s₂.heap, slotsUsed := s₂.slotsUsed } : State).setVm s₂.vm).setTop { g with pc := g.pc + len₂, stack := v.toList ++ g.stack } := by
      refine e3.trans ?_
      rw [hf₂, State.calling_eq h.top, State.setFrames_setFrames, State.setTop_of_frames _ hr', hr]
      rfl
    have hsame : U.sameButNew ({ U with heap := s₂.heap, slotsUsed := s₂.slotsUsed } : State) L mc ms := by
      refine ⟨?_, q2, q3, q4, q5, q6⟩
      obtain ⟨t, ht, -⟩ := State.frames_cons hr
      show ({ U with heap := s₂.heap, slotsUsed := s₂.slotsUsed } : State) = { U.setFrames U.frames with heap := s₂.heap, slotsUsed := s₂.slotsUsed }
      rw [State.setFrames_self ht]
    subst hg
    refine Or.inl ⟨v, ⟨(({ U with heap := s₂.heap, slotsUsed := s₂.slotsUsed } : State).setVm s₂.vm), Ls ++ L, c0 + mc, s0 + ms⟩,
      ⟨X.admits, X.cas, X.clock, X.frames, X.room, X.hears, X.method, X.code, (X.here.setHeapUsed s₂.heap s₂.slotsUsed).setVm hW'.alike, X.tail, State.WarmedH.trans X.warmed hW', X.limits, X.bytes, X.same.trans (hsame.setVm s.vm)⟩,
      ⟨g, mk, s₂, L, rfl, rfl, hqc, rfl, hL, rfl, rfl⟩, ?_⟩
    show Steps p.tables e below _ ((({ U with heap := s₂.heap, slotsUsed := s₂.slotsUsed } : State).setVm s₂.vm).setTop { g with pc := g.pc + len₂, stack := v.toList ++ g.stack })
    rw [← hs₂]
    exact hsteps
  · obtain ⟨e2, q2, q3, q4, q5, q6⟩ := id hsm
    have e3 : s₂ = ({ (U.calling g mk a).setFrames s₂.frames with heap := s₂.heap, slotsUsed := s₂.slotsUsed } : State).setVm s₂.vm := by
      have : s₂ = ({ s₂ with vm := (U.calling g mk a).vm } : State).setVm s₂.vm := rfl
      rw [e2] at this
      exact this
    have hf₂ : s₂.frames = .throwing q :: .java g :: U.frames.tail := hend
    have hW' : U.WarmedH s₂.vm := hW₂
    have hs₂ : s₂ = ((({ U with heap := s₂.heap, slotsUsed := s₂.slotsUsed } : State).setVm s₂.vm).setTop g).pushFrame (.throwing q) := by
      refine e3.trans ?_
      rw [hf₂, State.calling_eq h.top, State.setFrames_setFrames, State.pushFrame, State.frames_setTop _ hr', State.setTop_of_frames _ hr', State.setFrames_setFrames, hr]
      rfl
    have hsame : U.sameButNew ({ U with heap := s₂.heap, slotsUsed := s₂.slotsUsed } : State) L mc ms := by
      refine ⟨?_, q2, q3, q4, q5, q6⟩
      obtain ⟨t, ht, -⟩ := State.frames_cons hr
      show ({ U with heap := s₂.heap, slotsUsed := s₂.slotsUsed } : State) = { U.setFrames U.frames with heap := s₂.heap, slotsUsed := s₂.slotsUsed }
      rw [State.setFrames_self ht]
    subst hg
    refine Or.inr ⟨q, ⟨(({ U with heap := s₂.heap, slotsUsed := s₂.slotsUsed } : State).setVm s₂.vm), Ls ++ L, c0 + mc, s0 + ms⟩,
      ⟨X.admits, X.cas, X.clock, X.frames, X.room, X.hears, X.method, X.code, (X.here.setHeapUsed s₂.heap s₂.slotsUsed).setVm hW'.alike, X.tail, State.WarmedH.trans X.warmed hW', X.limits, X.bytes, X.same.trans (hsame.setVm s.vm)⟩,
      ⟨g, mk, s₂, L, E, ce, rfl, rfl, hx, hce, hcv, hcl, rfl, hL, rfl, rfl⟩, ?_⟩
    show Steps p.tables e below _ (((({ U with heap := s₂.heap, slotsUsed := s₂.slotsUsed } : State).setVm s₂.vm).setTop g).pushFrame (.throwing q))
    rw [← hs₂]
    exact hsteps
end
variable {p : Program} {l : Launch} {e : Env} {R : Room} {s : State} {m : MethodId} {args : Array Value} {below : List Frame} {meth : Method} {c : Code} {T : State} {H : Heap} {locs : List Loc} {cells slots : Nat}
theorem vx_callVX (X : Stand p l e R s m args below meth c T locs cells slots) (hexec : p.tables.exec = Jvm.exec) {own C : String} {index : Nat} {y : MethodName} {bytes : ByteArray} {maxL : Nat} {ret : Option FieldType} {hh : List (Nat × Nat × Nat × Nat)}
    (hown : s.vm.findClass own = some m.cls) (hlink : (Cond.methodLink own index y).before args s = true) (hinst : (Cond.instanceMethod y).before args s = true) (hsel : (Cond.selects C y y).before args s = true)
    (hcode : (Cond.codeWith y bytes maxL ret hh).before args s = true) (hy : y.cls ≠ "java/lang/invoke/MethodHandle" ∧ y.cls ≠ "java/lang/invoke/VarHandle")
    {W9 : Nat} {Pre : Pt → Array Value → Prop} {Post : Pt → Array Value → Option Value → Pt → Prop} {PostX : Pt → Array Value → Addr → Pt → Prop} (hK : vx_Back l R p e below s args y 3 W9 Pre Post PostX)
    {b : Addr} {cellB : Cell} (hcell : T.heap[b]? = some cellB) (hobj : cellB.vm.isStatics = false) (hcls : s.vm.findClass C = some cellB.cls)
    {g : JFrame} (hg : g.method = m) (hsize : g.locals.size = c.maxLocals) {argsL rest : List Value} (hlen : ∀ sig, parseMethodDescriptor y.desc = some sig → argsL.length = sig.parameters.length)
    (hstack : g.stack = argsL.reverse ++ .ref b :: rest) (hW : 2 * g.monitorRoom + (rest.map fun v => v.category).sum ≤ W9) (hdg : decode c.code g.pc = .ok (.invokevirtual index, 3))
    (hpre : ∀ vm₁, s.WarmedH vm₁ → Pre ⟨T.setVm vm₁, locs, cells, slots⟩ (Value.ref b :: argsL).toArray) :
    (∃ (v : Option Value) (vm₁ : Vm) (B : Pt), s.WarmedH vm₁ ∧ Stand p l e R s m args below meth c B.U B.locs B.cells B.slots ∧ Post ⟨T.setVm vm₁, locs, cells, slots⟩ (Value.ref b :: argsL).toArray v B ∧
      ∀ target, Steps p.tables e below (B.U.setTop { g with pc := g.pc + 3, stack := v.toList ++ rest }) target → Steps p.tables e below (T.setTop g) target) ∨
    (∃ (q : Addr) (vm₁ : Vm) (B : Pt), s.WarmedH vm₁ ∧ Stand p l e R s m args below meth c B.U B.locs B.cells B.slots ∧ PostX ⟨T.setVm vm₁, locs, cells, slots⟩ (Value.ref b :: argsL).toArray q B ∧
      Steps p.tables e below (T.setTop g) ((B.U.setTop { g with stack := rest }).pushFrame (.throwing q))) := by
  obtain ⟨mk, methM, hnamed, hmethM, hstM, habM⟩ := Cond.instanceMethod_spec hinst
  obtain ⟨m8, methM', cM, hn8, hmethM', -, -, -, -, -, -, hsigM⟩ := Cond.codeWith_spec hcode
  cases Option.some.inj (hn8.symm.trans hnamed)
  cases hmethM.symm.trans hmethM'
  obtain ⟨c2, r2, m2, q1, q2, q3, q4, kP, hkP, hkPi⟩ := Cond.selects_spec hsel
  cases hcls.symm.trans q1
  cases (State.methodFound?_of_named hnamed hy).symm.trans q2
  cases hnamed.symm.trans q3
  have hselP : selectMethod e.platform s.vm cellB.cls mk = .method mk := by rw [Launch.admits_selectMethod X.admits]; exact q4
  obtain ⟨vm₁, X₁, hstep₁⟩ := X.invokevirtual hexec hown hlink hnamed hmethM hstM hkP hkPi hy (a := b) (cell := cellB) hcell
    (fun z h => by rw [h] at hobj; cases hobj) hselP hmethM habM hkP hkPi (g := g) hg (argsL := argsL) (rest := rest) (hlen _ hsigM) hstack hdg
  rcases hK m meth c ⟨T.setVm vm₁, locs, cells, slots⟩ { g with stack := rest } (.invokevirtual index) mk (Value.ref b :: argsL).toArray X₁ hg hsize hdg hW (X₁.named hnamed) (hpre vm₁ X₁.warmed) with ⟨v, B, X', hpost, hsteps⟩ | ⟨q, B, X', hpost, hsteps⟩
  · exact Or.inl ⟨v, vm₁, B, X₁.warmed, X', hpost, fun target h => hstep₁ _ fun acts => by rw [doInvoke_state]; exact hsteps.trans h⟩
  · exact Or.inr ⟨q, vm₁, B, X₁.warmed, X', hpost, hstep₁ _ fun acts => by rw [doInvoke_state]; exact hsteps⟩
theorem vx_callSX (X : Stand p l e R s m args below meth c T locs cells slots) (hexec : p.tables.exec = Jvm.exec) {own : String} {index : Nat} {y : MethodName} {bytes : ByteArray} {maxL : Nat} {ret : Option FieldType} {hh : List (Nat × Nat × Nat × Nat)}
    (hown : s.vm.findClass own = some m.cls) (hlink : (Cond.methodLink own index y).before args s = true) (hstat : (Cond.static y).before args s = true) (hinit : (Cond.initialized y.cls).before args s = true)
    (hcode : (Cond.codeWith y bytes maxL ret hh).before args s = true) (hy : y.cls ≠ "java/lang/invoke/MethodHandle" ∧ y.cls ≠ "java/lang/invoke/VarHandle")
    {W9 : Nat} {Pre : Pt → Array Value → Prop} {Post : Pt → Array Value → Option Value → Pt → Prop} {PostX : Pt → Array Value → Addr → Pt → Prop} (hK : vx_Back l R p e below s args y 3 W9 Pre Post PostX)
    {g : JFrame} (hg : g.method = m) (hsize : g.locals.size = c.maxLocals) {argsL rest : List Value} (hlen : ∀ sig, parseMethodDescriptor y.desc = some sig → argsL.length = sig.parameters.length)
    (hstack : g.stack = argsL.reverse ++ rest) (hW : 2 * g.monitorRoom + (rest.map fun v => v.category).sum ≤ W9) (hdg : decode c.code g.pc = .ok (.invokestatic index, 3))
    (hpre : ∀ vm₁, s.WarmedH vm₁ → Pre ⟨T.setVm vm₁, locs, cells, slots⟩ argsL.toArray) :
    (∃ (v : Option Value) (vm₁ : Vm) (B : Pt), s.WarmedH vm₁ ∧ Stand p l e R s m args below meth c B.U B.locs B.cells B.slots ∧ Post ⟨T.setVm vm₁, locs, cells, slots⟩ argsL.toArray v B ∧
      ∀ target, Steps p.tables e below (B.U.setTop { g with pc := g.pc + 3, stack := v.toList ++ rest }) target → Steps p.tables e below (T.setTop g) target) ∨
    (∃ (q : Addr) (vm₁ : Vm) (B : Pt), s.WarmedH vm₁ ∧ Stand p l e R s m args below meth c B.U B.locs B.cells B.slots ∧ PostX ⟨T.setVm vm₁, locs, cells, slots⟩ argsL.toArray q B ∧
      Steps p.tables e below (T.setTop g) ((B.U.setTop { g with stack := rest }).pushFrame (.throwing q))) := by
  obtain ⟨mk, methM, cM, hnamed, hmethM, -, -, -, -, -, -, hsigM⟩ := Cond.codeWith_spec hcode
  have hstatic : methM.isStatic = true := Cond.static_spec hnamed hmethM hstat
  obtain ⟨kP, hkP, -⟩ := className_of_methodNamed hnamed
  have hinitP : kP.init = .initialized := Cond.initialized_spec (findClass_of_methodNamed hnamed) hkP hinit
  obtain ⟨vm₁, X₁, hstep₁⟩ := X.invokestatic hexec hown hlink hnamed hmethM hstatic hkP hinitP hy (g := g) hg (argsL := argsL) (rest := rest) (hlen _ hsigM) hstack hdg
  rcases hK m meth c ⟨T.setVm vm₁, locs, cells, slots⟩ { g with stack := rest } (.invokestatic index) mk argsL.toArray X₁ hg hsize hdg hW (X₁.named hnamed) (hpre vm₁ X₁.warmed) with ⟨v, B, X', hpost, hsteps⟩ | ⟨q, B, X', hpost, hsteps⟩
  · exact Or.inl ⟨v, vm₁, B, X₁.warmed, X', hpost, fun target h => hstep₁ _ fun acts => by rw [doInvoke_state]; exact hsteps.trans h⟩
  · exact Or.inr ⟨q, vm₁, B, X₁.warmed, X', hpost, hstep₁ _ fun acts => by rw [doInvoke_state]; exact hsteps⟩
theorem vx_callVW (X : Stand p l e R s m args below meth c T locs cells slots) (hexec : p.tables.exec = Jvm.exec) {own C : String} {index : Nat} {y : MethodName} {bytes : ByteArray} {maxL : Nat} {ret : Option FieldType} {hh : List (Nat × Nat × Nat × Nat)}
    (hown : s.vm.findClass own = some m.cls) (hlink : (Cond.methodLink own index y).before args s = true) (hinst : (Cond.instanceMethod y).before args s = true) (hsel : (Cond.selects C y y).before args s = true)
    (hcode : (Cond.codeWith y bytes maxL ret hh).before args s = true) (hy : y.cls ≠ "java/lang/invoke/MethodHandle" ∧ y.cls ≠ "java/lang/invoke/VarHandle")
    {W9 : Nat} {Pre : Pt → Array Value → Prop} {Post : Pt → Array Value → Option Value → Pt → Prop} (hK : Back l R p e below s args y 3 W9 Pre Post)
    {b : Addr} {cellB : Cell} (hcell : T.heap[b]? = some cellB) (hobj : cellB.vm.isStatics = false) (hcls : s.vm.findClass C = some cellB.cls)
    {g : JFrame} (hg : g.method = m) (hsize : g.locals.size = c.maxLocals) {argsL rest : List Value} (hlen : ∀ sig, parseMethodDescriptor y.desc = some sig → argsL.length = sig.parameters.length)
    (hstack : g.stack = argsL.reverse ++ .ref b :: rest) (hW : 2 * g.monitorRoom + (rest.map fun v => v.category).sum ≤ W9) (hdg : decode c.code g.pc = .ok (.invokevirtual index, 3))
    (hpre : ∀ vm₁, s.WarmedH vm₁ → Pre ⟨T.setVm vm₁, locs, cells, slots⟩ (Value.ref b :: argsL).toArray) :
    ∃ (v : Option Value) (vm₁ : Vm) (B : Pt), s.WarmedH vm₁ ∧ Stand p l e R s m args below meth c B.U B.locs B.cells B.slots ∧ Post ⟨T.setVm vm₁, locs, cells, slots⟩ (Value.ref b :: argsL).toArray v B ∧
      ∀ target, Steps p.tables e below (B.U.setTop { g with pc := g.pc + 3, stack := v.toList ++ rest }) target → Steps p.tables e below (T.setTop g) target := by
  obtain ⟨mk, methM, hnamed, hmethM, hstM, habM⟩ := Cond.instanceMethod_spec hinst
  obtain ⟨m8, methM', cM, hn8, hmethM', -, -, -, -, -, -, hsigM⟩ := Cond.codeWith_spec hcode
  cases Option.some.inj (hn8.symm.trans hnamed)
  cases hmethM.symm.trans hmethM'
  obtain ⟨c2, r2, m2, q1, q2, q3, q4, kP, hkP, hkPi⟩ := Cond.selects_spec hsel
  cases hcls.symm.trans q1
  cases (State.methodFound?_of_named hnamed hy).symm.trans q2
  cases hnamed.symm.trans q3
  have hselP : selectMethod e.platform s.vm cellB.cls mk = .method mk := by rw [Launch.admits_selectMethod X.admits]; exact q4
  obtain ⟨vm₁, X₁, hstep₁⟩ := X.invokevirtual hexec hown hlink hnamed hmethM hstM hkP hkPi hy (a := b) (cell := cellB) hcell
    (fun z h => by rw [h] at hobj; cases hobj) hselP hmethM habM hkP hkPi (g := g) hg (argsL := argsL) (rest := rest) (hlen _ hsigM) hstack hdg
  obtain ⟨v, B, X', hpost, hsteps⟩ := hK m meth c ⟨T.setVm vm₁, locs, cells, slots⟩ { g with stack := rest } (.invokevirtual index) mk (Value.ref b :: argsL).toArray X₁ hg hsize hdg hW (X₁.named hnamed) (hpre vm₁ X₁.warmed)
  exact ⟨v, vm₁, B, X₁.warmed, X', hpost, fun target h => hstep₁ _ fun acts => by rw [doInvoke_state]; exact hsteps.trans h⟩
abbrev vx_CVW (R : Room) (s : State) (args : Array Value) (own C : String) (index : Nat) (y : MethodName) (bytes : ByteArray) (maxL : Nat) (ret : Option FieldType) (hh : List (Nat × Nat × Nat × Nat)) (ws : List Cond) (rm : Room) (mc ms n : Nat) : Prop :=
  (rm.cells = mc ∧ rm.slots = ms ∧ rm.frames + 1 ≤ R.frames ∧ 8 + (maxL + 11) + rm.locals ≤ R.locals ∧ (∀ w ∈ ws, ∀ (a' : Array Value) (U : State), s.WarmedH U.vm → w.before a' U = true) ∧ Cond.codeWith y bytes maxL ret hh ∈ ws) ∧
  (Cond.codeWith y bytes maxL ret hh).before args s = true ∧ (Cond.initialized y.cls).before args s = true ∧ (y.cls ≠ "java/lang/invoke/MethodHandle" ∧ y.cls ≠ "java/lang/invoke/VarHandle") ∧
  (∀ sig, parseMethodDescriptor y.desc = some sig → n = sig.parameters.length) ∧ (Cond.methodLink own index y).before args s = true ∧ (Cond.instanceMethod y).before args s = true ∧ (Cond.selects C y y).before args s = true
theorem vx_cwVW {own C : String} {index maxL mc ms : Nat} {y : MethodName} {bytes : ByteArray} {ret : Option FieldType} {hh : List (Nat × Nat × Nat × Nat)} {Ts ws ws' : List Cond} {rm : Room} (n : Nat) (ht : ∀ w ∈ Ts, w.before args s = true) (hT : GoodIn Ts (wsV own index C y ws)) (hw : ws = Cond.codeWith y bytes maxL ret hh :: ws') (hrc : rm.cells = mc) (hrs : rm.slots = ms)
    (hd : y.cls = C ∧ y.cls ≠ "java/lang/invoke/MethodHandle" ∧ y.cls ≠ "java/lang/invoke/VarHandle" ∧ (parseMethodDescriptor y.desc).map (fun d => d.parameters.length) = some n) (hR : rm.frames + 1 ≤ R.frames ∧ 8 + (maxL + 11) + rm.locals ≤ R.locals) :
    vx_CVW R s args own C index y bytes maxL ret hh ws rm mc ms n := by
  obtain ⟨hC, hd⟩ := hd
  subst hC
  have ok : ∀ w ∈ wsV own index y.cls y ws, w.before args s = true := fun w h => ht w (hT w h).1
  have hG : GoodIn Ts ws := fun w h => hT w (by unfold wsV; exact List.mem_append_right _ h)
  have hc : Cond.codeWith y bytes maxL ret hh ∈ ws := by rw [hw]; exact List.mem_cons_self
  refine ⟨⟨hrc, hrs, hR.1, hR.2, pay_in ht hG, hc⟩, ht _ (hG _ hc).1, ok _ (by simp [wsV]), ⟨hd.1, hd.2.1⟩, fun sig h => ?_, ok _ (by simp [wsV]), ok _ (by simp [wsV]), ok _ (by simp [wsV])⟩
  have h2 := hd.2.2
  rw [h] at h2
  exact (Option.some.inj h2).symm
theorem vx_runVW {y : MethodName} {bytes cc : ByteArray} {maxL nL mc ms n index : Nat} {ret : Option FieldType} {hh : List (Nat × Nat × Nat × Nat)} {ws : List Cond} {rm : Room} {Pc : Array Value → State → Prop} {Qc : Array Value → State → Outcome → State → Prop} {free : Addr → Prop} {Ts : List Cond} {own C : String} {b : Addr} {As rest : List Value} {g : JFrame}
    (S : CallFix p m c cc nL s args Ts own) (hM : Met l y ws rm Pc Qc mc ms free) (cw : vx_CVW R s args own C index y bytes maxL ret hh ws rm mc ms n) (hp : PreV s H C b Pc As)
    (hg : g.method = m) (hn : As.length = n) (hsize : g.locals.size = nL) (hstack : g.stack = As.reverse ++ .ref b :: rest) (hW : 2 * g.monitorRoom + (rest.map fun v => v.category).sum ≤ 8) (hdg : decode cc g.pc = .ok (.invokevirtual index, 3)) (hf : cells + mc ≤ R.cells ∧ slots + ms ≤ R.slots) :
    va_Run p l e R s m args below meth c H locs cells slots mc ms g rest (Qc (Value.ref b :: As).toArray) free := by
  obtain ⟨⟨hrc, hrs, hfr, hlo, hws, hcw⟩, hcode, hini, hy, hlen, hl, hin, hse⟩ := cw
  have hK : Back l R p e below s args y 3 8 (PreOf R mc ms Pc) (PostOf Qc mc ms free) := va_backW (hh := hh) (bytes := bytes) (maxL := maxL) (ret := ret) hM hp.1 hrc hrs hfr hlo hws hcw (fun a' U hW => word_at hW (Or.inl (by first | rfl | simp [Cond.onTables, Cond.keeps, Cond.steady])) hini)
  obtain ⟨hx, hb, hml, ho, -⟩ := S
  obtain ⟨-, ⟨cellB, hcB, hoB, hclB⟩, hPc⟩ := hp
  intro T hT X
  obtain ⟨v, vm₁, ⟨U', l2, c2, s2⟩, hW₁, X', ⟨g', mk, t, L, e1, e2, hq, h1, hL, h2, h3⟩, st⟩ := vx_callVW X hx (C := C) (hh := hh) (bytes := bytes) (maxL := maxL) (ret := ret) ho hl hin hse hcode hy hK (by rw [hT]; exact hcB) hoB hclB hg (hsize.trans hml.symm) (argsL := As) (rest := rest) (fun sig h => hn.trans (hlen sig h)) hstack hW (by rw [hb]; exact hdg)
    (fun vm₁ hW₁ => ⟨hf.1, hf.2, hPc (T.setVm vm₁) hT hW₁⟩)
  dsimp only [Pt.U, Pt.locs, Pt.cells, Pt.slots] at X' e1 e2 h1 h2 h3 st
  subst h1; subst h2; subst h3
  exact ⟨v, (T.setVm vm₁).calling g' mk (Value.ref b :: As).toArray, t, U', L, hT, X', hL, e1, e2, hq, st⟩
section
variable {y : MethodName} {bytes cc : ByteArray} {maxL nL mc ms n index : Nat} {ret : Option FieldType} {ws : List Cond} {rm : Room} {Pc : Array Value → State → Prop} {Qc : Array Value → State → Outcome → State → Prop} {XC : String → State → State → Prop} {free : Addr → Prop} {Ts : List Cond} {own C : String} {b : Addr} {As rest : List Value} {g : JFrame}
theorem vx_runVX {hh : List (Nat × Nat × Nat × Nat)} (S : CallFix p m c cc nL s args Ts own) (hM : vx_Met l y ws rm Pc Qc XC mc ms free) (cw : vx_CVW R s args own C index y bytes maxL ret hh ws rm mc ms n) (hp : PreV s H C b Pc As)
    (hg : g.method = m) (hn : As.length = n) (hsize : g.locals.size = nL) (hstack : g.stack = As.reverse ++ .ref b :: rest) (hW : 2 * g.monitorRoom + (rest.map fun v => v.category).sum ≤ 8) (hdg : decode cc g.pc = .ok (.invokevirtual index, 3)) (hf : cells + mc ≤ R.cells ∧ slots + ms ≤ R.slots) :
    vx_Run p l e R s m args below meth c H locs cells slots mc ms g rest (Qc (Value.ref b :: As).toArray) XC free := by
  obtain ⟨⟨hrc, hrs, hfr, hlo, hws, hcw⟩, hcode, hini, hy, hlen, hl, hin, hse⟩ := cw
  have hK : vx_Back l R p e below s args y 3 8 (PreOf R mc ms Pc) (PostOf Qc mc ms free) (vx_Post XC mc ms free) := vx_backW (hh := hh) (bytes := bytes) (maxL := maxL) (ret := ret) hM hp.1 hrc hrs hfr hlo hws hcw (fun a' U hW => word_at hW (Or.inl (by first | rfl | simp [Cond.onTables, Cond.keeps, Cond.steady])) hini)
  obtain ⟨hx, hb, hml, ho, -⟩ := S
  obtain ⟨-, ⟨cellB, hcB, hoB, hclB⟩, hPc⟩ := hp
  intro T hT X
  rcases vx_callVX X hx (C := C) (hh := hh) (bytes := bytes) (maxL := maxL) (ret := ret) ho hl hin hse hcode hy hK (by rw [hT]; exact hcB) hoB hclB hg (hsize.trans hml.symm) (argsL := As) (rest := rest) (fun sig h => hn.trans (hlen sig h)) hstack hW (by rw [hb]; exact hdg)
    (fun vm₁ hW₁ => ⟨hf.1, hf.2, hPc (T.setVm vm₁) hT hW₁⟩) with ⟨v, vm₁, ⟨U', l2, c2, s2⟩, hW₁, X', ⟨g', mk, t, L, e1, e2, hq, h1, hL, h2, h3⟩, st⟩ | ⟨q, vm₁, ⟨U', l2, c2, s2⟩, hW₁, X', ⟨g', mk, t, L, E, ce, e1, e2, hq, hce, hcv, hcl, h1, hL, h2, h3⟩, st⟩
  · dsimp only [Pt.U, Pt.locs, Pt.cells, Pt.slots] at X' e1 e2 h1 h2 h3 st
    subst h1; subst h2; subst h3
    exact Or.inl ⟨v, (T.setVm vm₁).calling g' mk (Value.ref b :: As).toArray, t, U', L, hT, X', hL, e1, e2, hq, st⟩
  · dsimp only [Pt.U, Pt.locs, Pt.cells, Pt.slots] at X' e1 e2 h1 h2 h3 st hcl
    subst h1; subst h2; subst h3
    exact Or.inr ⟨q, (T.setVm vm₁).calling g' mk (Value.ref b :: As).toArray, t, U', L, E, ce, hT, X', hL, e1, e2, hq, hce, hcv, vx_cls hW₁ hcl, st⟩
theorem vx_runSX {hh : List (Nat × Nat × Nat × Nat)} (S : CallFix p m c cc nL s args Ts own) (hM : vx_Met l y ws rm Pc Qc XC mc ms free) (cw : vx_CSW R s args own index y bytes maxL ret hh ws rm mc ms n) (hp : PreS s H Pc As)
    (hg : g.method = m) (hn : As.length = n) (hsize : g.locals.size = nL) (hstack : g.stack = As.reverse ++ rest) (hW : 2 * g.monitorRoom + (rest.map fun v => v.category).sum ≤ 8) (hdg : decode cc g.pc = .ok (.invokestatic index, 3)) (hf : cells + mc ≤ R.cells ∧ slots + ms ≤ R.slots) :
    vx_Run p l e R s m args below meth c H locs cells slots mc ms g rest (Qc As.toArray) XC free := by
  obtain ⟨⟨hrc, hrs, hfr, hlo, hws, hcw⟩, hcode, hini, hy, hlen, hl, hstt⟩ := cw
  have hK : vx_Back l R p e below s args y 3 8 (PreOf R mc ms Pc) (PostOf Qc mc ms free) (vx_Post XC mc ms free) := vx_backW (hh := hh) (bytes := bytes) (maxL := maxL) (ret := ret) hM hp.1 hrc hrs hfr hlo hws hcw (fun a' U hW => word_at hW (Or.inl (by first | rfl | simp [Cond.onTables, Cond.keeps, Cond.steady])) hini)
  obtain ⟨hx, hb, hml, ho, -⟩ := S
  intro T hT X
  rcases vx_callSX X hx (hh := hh) (bytes := bytes) (maxL := maxL) (ret := ret) ho hl hstt hini hcode hy hK hg (hsize.trans hml.symm) (argsL := As) (rest := rest) (fun sig h => hn.trans (hlen sig h)) hstack hW (by rw [hb]; exact hdg)
    (fun vm₁ hW₁ => ⟨hf.1, hf.2, hp.2 (T.setVm vm₁) hT hW₁⟩) with ⟨v, vm₁, ⟨U', l2, c2, s2⟩, hW₁, X', ⟨g', mk, t, L, e1, e2, hq, h1, hL, h2, h3⟩, st⟩ | ⟨q, vm₁, ⟨U', l2, c2, s2⟩, hW₁, X', ⟨g', mk, t, L, E, ce, e1, e2, hq, hce, hcv, hcl, h1, hL, h2, h3⟩, st⟩
  · dsimp only [Pt.U, Pt.locs, Pt.cells, Pt.slots] at X' e1 e2 h1 h2 h3 st
    subst h1; subst h2; subst h3
    exact Or.inl ⟨v, (T.setVm vm₁).calling g' mk As.toArray, t, U', L, hT, X', hL, e1, e2, hq, st⟩
  · dsimp only [Pt.U, Pt.locs, Pt.cells, Pt.slots] at X' e1 e2 h1 h2 h3 st hcl
    subst h1; subst h2; subst h3
    exact Or.inr ⟨q, (T.setVm vm₁).calling g' mk As.toArray, t, U', L, E, ce, hT, X', hL, e1, e2, hq, hce, hcv, vx_cls hW₁ hcl, st⟩
end
end VXH
theorem vx_ofWH {l : Launch} {y : MethodName} {ws ws' : List Cond} {rm : Room} {Pc : Array Value → State → Prop} {Qc : Array Value → State → Outcome → State → Prop} {XC : String → State → State → Prop} {mc ms : Nat} {free : Addr → Prop} {cc : ByteArray} {maxL : Nat} {ret : Option FieldType} {hh : List (Nat × Nat × Nat × Nat)}
    (hy : plainName y.cls = true) (hw : ws = Cond.codeWith y cc maxL ret hh :: ws')
    (body : ∀ p e s m args below meth c s₁, BodyLoose p l y (headSpec ws rm) cc maxL ret e s m args below meth c s₁ → c.maxLocals = maxL → Pc args s →
      W p l e (headSpec ws rm).room s m args below meth c s.heap [] 0 0 (vx_MQ below Qc XC args s mc ms free) (entryFrame m args maxL)) : vx_Met l y ws rm Pc Qc XC mc ms free := by
  refine MetFree.of_bodyS (code := cc) (maxLocals := maxL) (ret := ret) hy ?_ ?_
  · intro args s m h hn
    obtain ⟨m9, meth, c, hn9, h1, h2, h3, h4, -, h5, h6, -⟩ := Cond.codeWith_spec (atoms_spec (ws := ws) h _ (by rw [hw]; exact List.mem_cons_self))
    cases hn.symm.trans hn9
    exact ⟨meth, c, h1, h2, h3, h4, h5, h6⟩
  · intro p e s m args below meth c s₁ B hml hP _
    have hh0 : s₁.heap = s.heap := by rw [B.state]; rfl
    obtain ⟨t, a1, o, b1, b2, b3⟩ := body p e s m args below meth c s₁ B hml hP s₁ hh0 (Stand.of_body B)
    exact ⟨t, o, a1, b1, b2, b3⟩
/-! ===== END ===== -/
end
section
/-! ===== BEGIN printed: names, fields, word lists, decode rows ===== -/
def RX0 : String := "SmudgedStar"
def TX0 : u_T := fun k => match k with
  | 0 => ("SmudgedStar", "thingCount", "I", false)
  | 1 => ("SmudgedStar", "nightCount", "I", false)
  | 2 => ("SmudgedStar", "usedThings", "[I", true)
  | 3 => ("SmudgedStar", "smudgeSeen", "[Z", true)
  | 4 => ("SmudgedStar", "missedNights", "[I", true)
  | 5 => ("SmudgedStar", "astronomerCount", "I", false)
  | 6 => ("SmudgedStar", "blamedThings", "[I", true)
  | 7 => ("SmudgedStar", "stubbornnessLeft", "[I", true)
  | 8 => ("SmudgedStar", "stubbornnessAtFirst", "[I", true)
  | _ => ("SmudgedStar", "mindsChanged", "I", false)
def tyX0 : Nat → FieldType := fun k => match k with
  | 0 => .int
  | 1 => .int
  | 2 => .array .int
  | 3 => .array .boolean
  | 4 => .array .int
  | 5 => .int
  | 6 => .array .int
  | 7 => .array .int
  | 8 => .array .int
  | _ => .int
abbrev wsX00 : List Cond := u_ws RX0 TX0 10
theorem nmX0 : ∀ a, a < 10 → ∀ b, b < 10 → a ≠ b → (TX0 a).2.1 ≠ (TX0 b).2.1 := by decide +kernel
theorem tyX0_ok : ∀ k, k < 10 → parseFieldDescriptor (TX0 k).2.2.1 = some (tyX0 k) := by decide +kernel
abbrev cX0_init : ByteArray := prog_1_method_1_code
def yX0_init : MethodName := ⟨RX0, "<init>", "()V"⟩
abbrev cX0_addThing : ByteArray := prog_1_method_2_code
def yX0_addThing : MethodName := ⟨RX0, "addThing", "()I"⟩
abbrev cX0_addAstronomer : ByteArray := prog_1_method_3_code
def yX0_addAstronomer : MethodName := ⟨RX0, "addAstronomer", "(I)I"⟩
abbrev cX0_blame : ByteArray := prog_1_method_4_code
def yX0_blame : MethodName := ⟨RX0, "blame", "(II)I"⟩
abbrev cX0_writeDown : ByteArray := prog_1_method_5_code
def yX0_writeDown : MethodName := ⟨RX0, "writeDown", "(IZ)I"⟩
abbrev cX0_strike : ByteArray := prog_1_method_6_code
def yX0_strike : MethodName := ⟨RX0, "strike", "(I)I"⟩
abbrev cX0_things : ByteArray := prog_1_method_7_code
def yX0_things : MethodName := ⟨RX0, "things", "()I"⟩
abbrev cX0_nightsWith : ByteArray := prog_1_method_8_code
def yX0_nightsWith : MethodName := ⟨RX0, "nightsWith", "(I)I"⟩
abbrev cX0_smudgesWith : ByteArray := prog_1_method_9_code
def yX0_smudgesWith : MethodName := ⟨RX0, "smudgesWith", "(I)I"⟩
abbrev cX0_isCleared : ByteArray := prog_1_method_10_code
def yX0_isCleared : MethodName := ⟨RX0, "isCleared", "(I)Z"⟩
abbrev cX0_isProved : ByteArray := prog_1_method_11_code
def yX0_isProved : MethodName := ⟨RX0, "isProved", "(I)Z"⟩
abbrev cX0_setsWith : ByteArray := prog_1_method_12_code
def yX0_setsWith : MethodName := ⟨RX0, "setsWith", "(I)I"⟩
abbrev cX0_nights : ByteArray := prog_1_method_13_code
def yX0_nights : MethodName := ⟨RX0, "nights", "()I"⟩
abbrev cX0_smudges : ByteArray := prog_1_method_14_code
def yX0_smudges : MethodName := ⟨RX0, "smudges", "()I"⟩
abbrev cX0_usedIn : ByteArray := prog_1_method_15_code
def yX0_usedIn : MethodName := ⟨RX0, "usedIn", "(I)I"⟩
abbrev cX0_isSmudged : ByteArray := prog_1_method_16_code
def yX0_isSmudged : MethodName := ⟨RX0, "isSmudged", "(I)Z"⟩
abbrev cX0_agree : ByteArray := prog_1_method_17_code
def yX0_agree : MethodName := ⟨RX0, "agree", "()Z"⟩
abbrev cX0_astronomers : ByteArray := prog_1_method_18_code
def yX0_astronomers : MethodName := ⟨RX0, "astronomers", "()I"⟩
abbrev cX0_blamedBy : ByteArray := prog_1_method_19_code
def yX0_blamedBy : MethodName := ⟨RX0, "blamedBy", "(I)I"⟩
abbrev cX0_stubbornnessOf : ByteArray := prog_1_method_20_code
def yX0_stubbornnessOf : MethodName := ⟨RX0, "stubbornnessOf", "(I)I"⟩
abbrev cX0_unexplainedBy : ByteArray := prog_1_method_21_code
def yX0_unexplainedBy : MethodName := ⟨RX0, "unexplainedBy", "(I)I"⟩
abbrev cX0_votesFor : ByteArray := prog_1_method_22_code
def yX0_votesFor : MethodName := ⟨RX0, "votesFor", "(I)I"⟩
abbrev cX0_vote : ByteArray := prog_1_method_23_code
def yX0_vote : MethodName := ⟨RX0, "vote", "()I"⟩
abbrev cX0_changesOfMind : ByteArray := prog_1_method_24_code
def yX0_changesOfMind : MethodName := ⟨RX0, "changesOfMind", "()I"⟩
abbrev cX0_explainsAll : ByteArray := prog_1_method_25_code
def yX0_explainsAll : MethodName := ⟨RX0, "explainsAll", "(I)Z"⟩
abbrev cX0_explanations : ByteArray := prog_1_method_26_code
def yX0_explanations : MethodName := ⟨RX0, "explanations", "()I"⟩
abbrev cX0_simplest : ByteArray := prog_1_method_27_code
def yX0_simplest : MethodName := ⟨RX0, "simplest", "()I"⟩
abbrev cX0_surelyToBlame : ByteArray := prog_1_method_28_code
def yX0_surelyToBlame : MethodName := ⟨RX0, "surelyToBlame", "()I"⟩
abbrev cX0_nightsToDoubt : ByteArray := prog_1_method_29_code
def yX0_nightsToDoubt : MethodName := ⟨RX0, "nightsToDoubt", "()I"⟩
abbrev cX0_leftIfSmudged : ByteArray := prog_1_method_30_code
def yX0_leftIfSmudged : MethodName := ⟨RX0, "leftIfSmudged", "(I)I"⟩
abbrev cX0_bestNight : ByteArray := prog_1_method_31_code
def yX0_bestNight : MethodName := ⟨RX0, "bestNight", "()I"⟩
abbrev cX0_wouldChange : ByteArray := prog_1_method_32_code
def yX0_wouldChange : MethodName := ⟨RX0, "wouldChange", "(IZ)I"⟩
abbrev cX0_meanBlame : ByteArray := prog_1_method_33_code
def yX0_meanBlame : MethodName := ⟨RX0, "meanBlame", "()D"⟩
abbrev cX0_digest : ByteArray := prog_1_method_34_code
def yX0_digest : MethodName := ⟨RX0, "digest", "()J"⟩
abbrev cX0_requireThing : ByteArray := prog_1_method_35_code
def yX0_requireThing : MethodName := ⟨RX0, "requireThing", "(I)V"⟩
abbrev cX0_requireNight : ByteArray := prog_1_method_36_code
def yX0_requireNight : MethodName := ⟨RX0, "requireNight", "(I)V"⟩
abbrev cX0_requireAstronomer : ByteArray := prog_1_method_37_code
def yX0_requireAstronomer : MethodName := ⟨RX0, "requireAstronomer", "(I)V"⟩
abbrev cX0_requireSet : ByteArray := prog_1_method_38_code
def yX0_requireSet : MethodName := ⟨RX0, "requireSet", "(I)V"⟩
abbrev cX0_requireUsableSet : ByteArray := prog_1_method_39_code
def yX0_requireUsableSet : MethodName := ⟨RX0, "requireUsableSet", "(I)V"⟩
abbrev cX0_requireRoomForNight : ByteArray := prog_1_method_40_code
def yX0_requireRoomForNight : MethodName := ⟨RX0, "requireRoomForNight", "()V"⟩
abbrev cX0_allThings : ByteArray := prog_1_method_41_code
def yX0_allThings : MethodName := ⟨RX0, "allThings", "()I"⟩
abbrev cX0_setOf : ByteArray := prog_1_method_42_code
def yX0_setOf : MethodName := ⟨RX0, "setOf", "(I)I"⟩
abbrev cX0_holds : ByteArray := prog_1_method_43_code
def yX0_holds : MethodName := ⟨RX0, "holds", "(II)Z"⟩
abbrev cX0_explains : ByteArray := prog_1_method_44_code
def yX0_explains : MethodName := ⟨RX0, "explains", "(IIZ)Z"⟩
abbrev cX0_clearedThings : ByteArray := prog_1_method_45_code
def yX0_clearedThings : MethodName := ⟨RX0, "clearedThings", "()I"⟩
abbrev cX0_countMisses : ByteArray := prog_1_method_46_code
def yX0_countMisses : MethodName := ⟨RX0, "countMisses", "(IZI)V"⟩
abbrev cX0_missesOf : ByteArray := prog_1_method_47_code
def yX0_missesOf : MethodName := ⟨RX0, "missesOf", "(I)I"⟩
abbrev cX0_explanationsMeeting : ByteArray := prog_1_method_48_code
def yX0_explanationsMeeting : MethodName := ⟨RX0, "explanationsMeeting", "(I)I"⟩
abbrev cX0_wouldAgreeWith : ByteArray := prog_1_method_49_code
def yX0_wouldAgreeWith : MethodName := ⟨RX0, "wouldAgreeWith", "(IZ)Z"⟩
abbrev cX0_letBlame : ByteArray := prog_1_method_50_code
def yX0_letBlame : MethodName := ⟨RX0, "letBlame", "(II)V"⟩
abbrev cX0_letAstronomersSee : ByteArray := prog_1_method_51_code
def yX0_letAstronomersSee : MethodName := ⟨RX0, "letAstronomersSee", "(IZ)I"⟩
abbrev cX0_mixed : ByteArray := prog_1_method_52_code
def yX0_mixed : MethodName := ⟨RX0, "mixed", "(JJ)J"⟩
abbrev cX0_oneIf : ByteArray := prog_1_method_53_code
def yX0_oneIf : MethodName := ⟨RX0, "oneIf", "(Z)J"⟩
abbrev cX0_mixedWithThings : ByteArray := prog_1_method_54_code
def yX0_mixedWithThings : MethodName := ⟨RX0, "mixedWithThings", "(J)J"⟩
abbrev cX0_mixedWithNights : ByteArray := prog_1_method_55_code
def yX0_mixedWithNights : MethodName := ⟨RX0, "mixedWithNights", "(J)J"⟩
abbrev cX0_mixedWithAstronomers : ByteArray := prog_1_method_56_code
def yX0_mixedWithAstronomers : MethodName := ⟨RX0, "mixedWithAstronomers", "(J)J"⟩
def RX1 : String := "SmudgedStarModel"
def TX1 : u_T := fun k => match k with
  | 0 => ("SmudgedStarModel", "thrown", "I", false)
  | 1 => ("SmudgedStarModel", "things", "I", false)
  | 2 => ("SmudgedStarModel", "nights", "I", false)
  | 3 => ("SmudgedStarModel", "used", "[I", true)
  | 4 => ("SmudgedStarModel", "smudged", "[Z", true)
  | 5 => ("SmudgedStarModel", "astronomers", "I", false)
  | 6 => ("SmudgedStarModel", "first", "[I", true)
  | 7 => ("SmudgedStarModel", "left", "[I", true)
  | 8 => ("SmudgedStarModel", "blames", "[I", true)
  | _ => ("SmudgedStarModel", "changes", "I", false)
def tyX1 : Nat → FieldType := fun k => match k with
  | 0 => .int
  | 1 => .int
  | 2 => .int
  | 3 => .array .int
  | 4 => .array .boolean
  | 5 => .int
  | 6 => .array .int
  | 7 => .array .int
  | 8 => .array .int
  | _ => .int
abbrev wsX10 : List Cond := u_ws RX1 TX1 10
theorem nmX1 : ∀ a, a < 10 → ∀ b, b < 10 → a ≠ b → (TX1 a).2.1 ≠ (TX1 b).2.1 := by decide +kernel
theorem tyX1_ok : ∀ k, k < 10 → parseFieldDescriptor (TX1 k).2.2.1 = some (tyX1 k) := by decide +kernel
abbrev cX1_init : ByteArray := prog_3_method_1_code
def yX1_init : MethodName := ⟨RX1, "<init>", "()V"⟩
abbrev cX1_thrown : ByteArray := prog_3_method_2_code
def yX1_thrown : MethodName := ⟨RX1, "thrown", "()I"⟩
abbrev cX1_no : ByteArray := prog_3_method_3_code
def yX1_no : MethodName := ⟨RX1, "no", "(I)I"⟩
abbrev cX1_isNot : ByteArray := prog_3_method_4_code
def yX1_isNot : MethodName := ⟨RX1, "isNot", "(I)Z"⟩
abbrev cX1_ok : ByteArray := prog_3_method_5_code
def yX1_ok : MethodName := ⟨RX1, "ok", "(I)I"⟩
abbrev cX1_isIn : ByteArray := prog_3_method_6_code
def yX1_isIn : MethodName := ⟨RX1, "isIn", "(III)Z"⟩
abbrev cX1_has : ByteArray := prog_3_method_7_code
def yX1_has : MethodName := ⟨RX1, "has", "(II)Z"⟩
abbrev cX1_all : ByteArray := prog_3_method_8_code
def yX1_all : MethodName := ⟨RX1, "all", "()I"⟩
abbrev cX1_isThing : ByteArray := prog_3_method_9_code
def yX1_isThing : MethodName := ⟨RX1, "isThing", "(I)Z"⟩
abbrev cX1_isNight : ByteArray := prog_3_method_10_code
def yX1_isNight : MethodName := ⟨RX1, "isNight", "(I)Z"⟩
abbrev cX1_isAstronomer : ByteArray := prog_3_method_11_code
def yX1_isAstronomer : MethodName := ⟨RX1, "isAstronomer", "(I)Z"⟩
abbrev cX1_explains : ByteArray := prog_3_method_12_code
def yX1_explains : MethodName := ⟨RX1, "explains", "(IIZ)Z"⟩
abbrev cX1_unexplained : ByteArray := prog_3_method_13_code
def yX1_unexplained : MethodName := ⟨RX1, "unexplained", "(I)I"⟩
abbrev cX1_explaining : ByteArray := prog_3_method_14_code
def yX1_explaining : MethodName := ⟨RX1, "explaining", "()I"⟩
abbrev cX1_fewest : ByteArray := prog_3_method_15_code
def yX1_fewest : MethodName := ⟨RX1, "fewest", "()I"⟩
abbrev cX1_inAll : ByteArray := prog_3_method_16_code
def yX1_inAll : MethodName := ⟨RX1, "inAll", "()I"⟩
abbrev cX1_withThing : ByteArray := prog_3_method_17_code
def yX1_withThing : MethodName := ⟨RX1, "withThing", "(I)I"⟩
abbrev cX1_meeting : ByteArray := prog_3_method_18_code
def yX1_meeting : MethodName := ⟨RX1, "meeting", "(I)I"⟩
abbrev cX1_addThing : ByteArray := prog_3_method_19_code
def yX1_addThing : MethodName := ⟨RX1, "addThing", "()I"⟩
abbrev cX1_addAstronomer : ByteArray := prog_3_method_20_code
def yX1_addAstronomer : MethodName := ⟨RX1, "addAstronomer", "(I)I"⟩
abbrev cX1_think : ByteArray := prog_3_method_21_code
def yX1_think : MethodName := ⟨RX1, "think", "(II)V"⟩
abbrev cX1_blame : ByteArray := prog_3_method_22_code
def yX1_blame : MethodName := ⟨RX1, "blame", "(II)I"⟩
abbrev cX1_put : ByteArray := prog_3_method_23_code
def yX1_put : MethodName := ⟨RX1, "put", "(IZ)V"⟩
abbrev cX1_writeDown : ByteArray := prog_3_method_24_code
def yX1_writeDown : MethodName := ⟨RX1, "writeDown", "(IZ)I"⟩
abbrev cX1_strike : ByteArray := prog_3_method_25_code
def yX1_strike : MethodName := ⟨RX1, "strike", "(I)I"⟩
abbrev cX1_things : ByteArray := prog_3_method_26_code
def yX1_things : MethodName := ⟨RX1, "things", "()I"⟩
abbrev cX1_nightsOf : ByteArray := prog_3_method_27_code
def yX1_nightsOf : MethodName := ⟨RX1, "nightsOf", "(IZ)I"⟩
abbrev cX1_nightsWith : ByteArray := prog_3_method_28_code
def yX1_nightsWith : MethodName := ⟨RX1, "nightsWith", "(I)I"⟩
abbrev cX1_smudgesWith : ByteArray := prog_3_method_29_code
def yX1_smudgesWith : MethodName := ⟨RX1, "smudgesWith", "(I)I"⟩
abbrev cX1_cleared : ByteArray := prog_3_method_30_code
def yX1_cleared : MethodName := ⟨RX1, "cleared", "()I"⟩
abbrev cX1_proved : ByteArray := prog_3_method_31_code
def yX1_proved : MethodName := ⟨RX1, "proved", "(I)Z"⟩
abbrev cX1_isCleared : ByteArray := prog_3_method_32_code
def yX1_isCleared : MethodName := ⟨RX1, "isCleared", "(I)Z"⟩
abbrev cX1_isProved : ByteArray := prog_3_method_33_code
def yX1_isProved : MethodName := ⟨RX1, "isProved", "(I)Z"⟩
abbrev cX1_setsWith : ByteArray := prog_3_method_34_code
def yX1_setsWith : MethodName := ⟨RX1, "setsWith", "(I)I"⟩
abbrev cX1_nights : ByteArray := prog_3_method_35_code
def yX1_nights : MethodName := ⟨RX1, "nights", "()I"⟩
abbrev cX1_smudgesNow : ByteArray := prog_3_method_36_code
def yX1_smudgesNow : MethodName := ⟨RX1, "smudgesNow", "()I"⟩
abbrev cX1_smudges : ByteArray := prog_3_method_37_code
def yX1_smudges : MethodName := ⟨RX1, "smudges", "()I"⟩
abbrev cX1_usedIn : ByteArray := prog_3_method_38_code
def yX1_usedIn : MethodName := ⟨RX1, "usedIn", "(I)I"⟩
abbrev cX1_isSmudged : ByteArray := prog_3_method_39_code
def yX1_isSmudged : MethodName := ⟨RX1, "isSmudged", "(I)Z"⟩
abbrev cX1_agree : ByteArray := prog_3_method_40_code
def yX1_agree : MethodName := ⟨RX1, "agree", "()Z"⟩
abbrev cX1_astronomers : ByteArray := prog_3_method_41_code
def yX1_astronomers : MethodName := ⟨RX1, "astronomers", "()I"⟩
abbrev cX1_blamedBy : ByteArray := prog_3_method_42_code
def yX1_blamedBy : MethodName := ⟨RX1, "blamedBy", "(I)I"⟩
abbrev cX1_stubbornnessOf : ByteArray := prog_3_method_43_code
def yX1_stubbornnessOf : MethodName := ⟨RX1, "stubbornnessOf", "(I)I"⟩
abbrev cX1_unexplainedBy : ByteArray := prog_3_method_44_code
def yX1_unexplainedBy : MethodName := ⟨RX1, "unexplainedBy", "(I)I"⟩
abbrev cX1_votes : ByteArray := prog_3_method_45_code
def yX1_votes : MethodName := ⟨RX1, "votes", "(I)I"⟩
abbrev cX1_votesFor : ByteArray := prog_3_method_46_code
def yX1_votesFor : MethodName := ⟨RX1, "votesFor", "(I)I"⟩
abbrev cX1_voted : ByteArray := prog_3_method_47_code
def yX1_voted : MethodName := ⟨RX1, "voted", "()I"⟩
abbrev cX1_vote : ByteArray := prog_3_method_48_code
def yX1_vote : MethodName := ⟨RX1, "vote", "()I"⟩
abbrev cX1_changesOfMind : ByteArray := prog_3_method_49_code
def yX1_changesOfMind : MethodName := ⟨RX1, "changesOfMind", "()I"⟩
abbrev cX1_explainsAll : ByteArray := prog_3_method_50_code
def yX1_explainsAll : MethodName := ⟨RX1, "explainsAll", "(I)Z"⟩
abbrev cX1_explanations : ByteArray := prog_3_method_51_code
def yX1_explanations : MethodName := ⟨RX1, "explanations", "()I"⟩
abbrev cX1_simplest : ByteArray := prog_3_method_52_code
def yX1_simplest : MethodName := ⟨RX1, "simplest", "()I"⟩
abbrev cX1_surelyToBlame : ByteArray := prog_3_method_53_code
def yX1_surelyToBlame : MethodName := ⟨RX1, "surelyToBlame", "()I"⟩
abbrev cX1_nightsToDoubt : ByteArray := prog_3_method_54_code
def yX1_nightsToDoubt : MethodName := ⟨RX1, "nightsToDoubt", "()I"⟩
abbrev cX1_leftIfSmudged : ByteArray := prog_3_method_55_code
def yX1_leftIfSmudged : MethodName := ⟨RX1, "leftIfSmudged", "(I)I"⟩
abbrev cX1_bestNight : ByteArray := prog_3_method_56_code
def yX1_bestNight : MethodName := ⟨RX1, "bestNight", "()I"⟩
abbrev cX1_wouldChange : ByteArray := prog_3_method_57_code
def yX1_wouldChange : MethodName := ⟨RX1, "wouldChange", "(IZ)I"⟩
abbrev cX1_meanBlame : ByteArray := prog_3_method_58_code
def yX1_meanBlame : MethodName := ⟨RX1, "meanBlame", "()D"⟩
abbrev cX1_one : ByteArray := prog_3_method_59_code
def yX1_one : MethodName := ⟨RX1, "one", "(Z)I"⟩
abbrev cX1_digest : ByteArray := prog_3_method_60_code
def yX1_digest : MethodName := ⟨RX1, "digest", "()J"⟩
def RJ6 : String := "java/lang/Integer"
def TJ6 : u_T := fun k => match k with
  | _ => ("", "", "", false)
def tyJ6 : Nat → FieldType := fun k => match k with
  | _ => .int
abbrev wsJ60 : List Cond := u_ws RJ6 TJ6 0
theorem nmJ6 : ∀ a, a < 0 → ∀ b, b < 0 → a ≠ b → (TJ6 a).2.1 ≠ (TJ6 b).2.1 := by decide +kernel
theorem tyJ6_ok : ∀ k, k < 0 → parseFieldDescriptor (TJ6 k).2.2.1 = some (tyJ6 k) := by decide +kernel
abbrev cJ6_bitCount_0f7a4 : ByteArray := prog_8_method_49_code
def yJ6_bitCount_0f7a4 : MethodName := ⟨RJ6, "bitCount", "(I)I"⟩
def RJ9 : String := "java/lang/Math"
def TJ9 : u_T := fun k => match k with
  | _ => ("", "", "", false)
def tyJ9 : Nat → FieldType := fun k => match k with
  | _ => .int
abbrev wsJ90 : List Cond := u_ws RJ9 TJ9 0
theorem nmJ9 : ∀ a, a < 0 → ∀ b, b < 0 → a ≠ b → (TJ9 a).2.1 ≠ (TJ9 b).2.1 := by decide +kernel
theorem tyJ9_ok : ∀ k, k < 0 → parseFieldDescriptor (TJ9 k).2.2.1 = some (tyJ9 k) := by decide +kernel
abbrev cJ9_max_7cf53 : ByteArray := prog_9_method_65_code
def yJ9_max_7cf53 : MethodName := ⟨RJ9, "max", "(II)I"⟩
abbrev cJ9_min_7cf53 : ByteArray := prog_9_method_69_code
def yJ9_min_7cf53 : MethodName := ⟨RJ9, "min", "(II)I"⟩
def RJ0 : String := "java/lang/String"
def TJ0 : u_T := fun k => match k with
  | _ => ("", "", "", false)
def tyJ0 : Nat → FieldType := fun k => match k with
  | _ => .int
abbrev wsJ00 : List Cond := u_ws RJ0 TJ0 0
theorem nmJ0 : ∀ a, a < 0 → ∀ b, b < 0 → a ≠ b → (TJ0 a).2.1 ≠ (TJ0 b).2.1 := by decide +kernel
theorem tyJ0_ok : ∀ k, k < 0 → parseFieldDescriptor (TJ0 k).2.2.1 = some (tyJ0 k) := by decide +kernel
def RL : String := "SmudgedStarLaw"
abbrev cL_addThing : ByteArray := method_3_code
def yL_addThing : MethodName := ⟨RL, "addThing", "(LSmudgedStar;[J)I"⟩
abbrev cL_addAstronomer : ByteArray := method_4_code
def yL_addAstronomer : MethodName := ⟨RL, "addAstronomer", "(LSmudgedStar;I[J)I"⟩
abbrev cL_blame : ByteArray := method_5_code
def yL_blame : MethodName := ⟨RL, "blame", "(LSmudgedStar;II[J)I"⟩
abbrev cL_writeDown : ByteArray := method_6_code
def yL_writeDown : MethodName := ⟨RL, "writeDown", "(LSmudgedStar;IZ[J)I"⟩
abbrev cL_strike : ByteArray := method_7_code
def yL_strike : MethodName := ⟨RL, "strike", "(LSmudgedStar;I[J)I"⟩
abbrev cL_nightsWith : ByteArray := method_8_code
def yL_nightsWith : MethodName := ⟨RL, "nightsWith", "(LSmudgedStar;I[J)I"⟩
abbrev cL_smudgesWith : ByteArray := method_9_code
def yL_smudgesWith : MethodName := ⟨RL, "smudgesWith", "(LSmudgedStar;I[J)I"⟩
abbrev cL_isCleared : ByteArray := method_10_code
def yL_isCleared : MethodName := ⟨RL, "isCleared", "(LSmudgedStar;I[J)I"⟩
abbrev cL_isProved : ByteArray := method_11_code
def yL_isProved : MethodName := ⟨RL, "isProved", "(LSmudgedStar;I[J)I"⟩
abbrev cL_setsWith : ByteArray := method_12_code
def yL_setsWith : MethodName := ⟨RL, "setsWith", "(LSmudgedStar;I[J)I"⟩
abbrev cL_usedIn : ByteArray := method_13_code
def yL_usedIn : MethodName := ⟨RL, "usedIn", "(LSmudgedStar;I[J)I"⟩
abbrev cL_isSmudged : ByteArray := method_14_code
def yL_isSmudged : MethodName := ⟨RL, "isSmudged", "(LSmudgedStar;I[J)I"⟩
abbrev cL_blamedBy : ByteArray := method_15_code
def yL_blamedBy : MethodName := ⟨RL, "blamedBy", "(LSmudgedStar;I[J)I"⟩
abbrev cL_stubbornnessOf : ByteArray := method_16_code
def yL_stubbornnessOf : MethodName := ⟨RL, "stubbornnessOf", "(LSmudgedStar;I[J)I"⟩
abbrev cL_unexplainedBy : ByteArray := method_17_code
def yL_unexplainedBy : MethodName := ⟨RL, "unexplainedBy", "(LSmudgedStar;I[J)I"⟩
abbrev cL_votesFor : ByteArray := method_18_code
def yL_votesFor : MethodName := ⟨RL, "votesFor", "(LSmudgedStar;I[J)I"⟩
abbrev cL_explainsAll : ByteArray := method_19_code
def yL_explainsAll : MethodName := ⟨RL, "explainsAll", "(LSmudgedStar;I[J)I"⟩
abbrev cL_leftIfSmudged : ByteArray := method_20_code
def yL_leftIfSmudged : MethodName := ⟨RL, "leftIfSmudged", "(LSmudgedStar;I[J)I"⟩
abbrev cL_wouldChange : ByteArray := method_21_code
def yL_wouldChange : MethodName := ⟨RL, "wouldChange", "(LSmudgedStar;IZ[J)I"⟩
abbrev cL_law : ByteArray := code
def yL_law : MethodName := ⟨RL, "law", "([I)Z"⟩
def wsX0_init : List Cond := .code yX0_init cX0_init 1 none :: ([.methodLink RX0 3 objectInit, .instanceMethod objectInit, .code objectInit ⟨#[0xb1]⟩ 1 none, .fieldLink RX0 9 "SmudgedStar" "thingCount" "I", .fieldLink RX0 13 "SmudgedStar" "nightCount" "I", .arrayClass .int, .fieldLink RX0 16 "SmudgedStar" "usedThings" "[I", .arrayClass .boolean, .fieldLink RX0 20 "SmudgedStar" "smudgeSeen" "[Z", .fieldLink RX0 24 "SmudgedStar" "missedNights" "[I", .fieldLink RX0 27 "SmudgedStar" "astronomerCount" "I", .fieldLink RX0 30 "SmudgedStar" "blamedThings" "[I", .fieldLink RX0 33 "SmudgedStar" "stubbornnessLeft" "[I", .fieldLink RX0 36 "SmudgedStar" "stubbornnessAtFirst" "[I", .fieldLink RX0 39 "SmudgedStar" "mindsChanged" "I"] ++ wsX00)
def wsX0_addThing : List Cond := .code yX0_addThing cX0_addThing 2 (some .int) :: ([.classLink RX0 42 "java/lang/IllegalStateException", .initialized "java/lang/IllegalStateException", .fieldLink RX0 9 "SmudgedStar" "thingCount" "I"] ++ wsX00 ++ (vx_atS RX0 46 "java/lang/IllegalStateException" ["java/lang/RuntimeException", "java/lang/Exception"]).filter goodWord)
def wsX0_letBlame : List Cond := .code yX0_letBlame cX0_letBlame 3 none :: ([.fieldLink RX0 30 "SmudgedStar" "blamedThings" "[I", .fieldLink RX0 33 "SmudgedStar" "stubbornnessLeft" "[I", .fieldLink RX0 36 "SmudgedStar" "stubbornnessAtFirst" "[I"] ++ wsX00)
def wsX0_addAstronomer : List Cond := .code yX0_addAstronomer cX0_addAstronomer 3 (some .int) :: ([.classLink RX0 49 "java/lang/IllegalArgumentException", .initialized "java/lang/IllegalArgumentException", .classLink RX0 42 "java/lang/IllegalStateException", .initialized "java/lang/IllegalStateException", .fieldLink RX0 27 "SmudgedStar" "astronomerCount" "I", .fieldLink RX0 36 "SmudgedStar" "stubbornnessAtFirst" "[I", .methodLink RX0 56 yX0_letBlame, .instanceMethod yX0_letBlame, .selects RX0 yX0_letBlame yX0_letBlame, .initialized RX0, .code yX0_letBlame cX0_letBlame 3 none, .fieldLink RX0 30 "SmudgedStar" "blamedThings" "[I", .fieldLink RX0 33 "SmudgedStar" "stubbornnessLeft" "[I"] ++ wsX00 ++ (vx_atS RX0 53 "java/lang/IllegalArgumentException" ["java/lang/RuntimeException", "java/lang/Exception"]).filter goodWord ++ (vx_atS RX0 46 "java/lang/IllegalStateException" ["java/lang/RuntimeException", "java/lang/Exception"]).filter goodWord)
def wsX0_requireAstronomer : List Cond := .code yX0_requireAstronomer cX0_requireAstronomer 2 none :: ([.classLink RX0 187 "java/lang/IndexOutOfBoundsException", .initialized "java/lang/IndexOutOfBoundsException", .fieldLink RX0 27 "SmudgedStar" "astronomerCount" "I"] ++ wsX00 ++ (vx_atS RX0 191 "java/lang/IndexOutOfBoundsException" ["java/lang/RuntimeException", "java/lang/Exception"]).filter goodWord)
def wsX0_allThings : List Cond := .code yX0_allThings cX0_allThings 1 (some .int) :: ([.fieldLink RX0 9 "SmudgedStar" "thingCount" "I"] ++ wsX00)
def wsX0_requireSet : List Cond := .code yX0_requireSet cX0_requireSet 2 none :: ([.classLink RX0 49 "java/lang/IllegalArgumentException", .initialized "java/lang/IllegalArgumentException", .methodLink RX0 111 yX0_allThings, .instanceMethod yX0_allThings, .selects RX0 yX0_allThings yX0_allThings, .initialized RX0, .code yX0_allThings cX0_allThings 1 (some .int), .fieldLink RX0 9 "SmudgedStar" "thingCount" "I"] ++ wsX00 ++ (vx_atS RX0 53 "java/lang/IllegalArgumentException" ["java/lang/RuntimeException", "java/lang/Exception"]).filter goodWord)
def wsX0_blame_r1 : List Cond := [Cond.fieldLink RX0 30 "SmudgedStar" "blamedThings" "[I", Cond.methodLink RX0 60 yX0_requireAstronomer, Cond.instanceMethod yX0_requireAstronomer, Cond.selects RX0 yX0_requireAstronomer yX0_requireAstronomer, Cond.initialized RX0, Cond.code yX0_requireAstronomer cX0_requireAstronomer 2 none, Cond.classLink RX0 187 "java/lang/IndexOutOfBoundsException", Cond.initialized "java/lang/IndexOutOfBoundsException", Cond.fieldLink RX0 27 "SmudgedStar" "astronomerCount" "I", Cond.methodLink RX0 64 yX0_requireSet, Cond.instanceMethod yX0_requireSet, Cond.selects RX0 yX0_requireSet yX0_requireSet, Cond.code yX0_requireSet cX0_requireSet 2 none, Cond.classLink RX0 49 "java/lang/IllegalArgumentException", Cond.initialized "java/lang/IllegalArgumentException", Cond.methodLink RX0 111 yX0_allThings, Cond.instanceMethod yX0_allThings, Cond.selects RX0 yX0_allThings yX0_allThings, Cond.code yX0_allThings cX0_allThings 1 (some .int), Cond.fieldLink RX0 9 "SmudgedStar" "thingCount" "I", Cond.methodLink RX0 56 yX0_letBlame, Cond.instanceMethod yX0_letBlame, Cond.selects RX0 yX0_letBlame yX0_letBlame, Cond.code yX0_letBlame cX0_letBlame 3 none]
def wsX0_blame_r2 : List Cond := [Cond.fieldLink RX0 33 "SmudgedStar" "stubbornnessLeft" "[I", Cond.fieldLink RX0 36 "SmudgedStar" "stubbornnessAtFirst" "[I"]
def wsX0_blame : List Cond := .code yX0_blame cX0_blame 4 (some .int) :: ((wsX0_blame_r1 ++ wsX0_blame_r2) ++ wsX00 ++ (vx_atS RX0 191 "java/lang/IndexOutOfBoundsException" ["java/lang/RuntimeException", "java/lang/Exception"]).filter goodWord ++ (vx_atS RX0 53 "java/lang/IllegalArgumentException" ["java/lang/RuntimeException", "java/lang/Exception"]).filter goodWord)
def wsX0_requireUsableSet : List Cond := .code yX0_requireUsableSet cX0_requireUsableSet 2 none :: ([.classLink RX0 49 "java/lang/IllegalArgumentException", .initialized "java/lang/IllegalArgumentException", .methodLink RX0 111 yX0_allThings, .instanceMethod yX0_allThings, .selects RX0 yX0_allThings yX0_allThings, .initialized RX0, .code yX0_allThings cX0_allThings 1 (some .int), .fieldLink RX0 9 "SmudgedStar" "thingCount" "I"] ++ wsX00 ++ (vx_atS RX0 53 "java/lang/IllegalArgumentException" ["java/lang/RuntimeException", "java/lang/Exception"]).filter goodWord)
def wsX0_requireRoomForNight : List Cond := .code yX0_requireRoomForNight cX0_requireRoomForNight 1 none :: ([.classLink RX0 42 "java/lang/IllegalStateException", .initialized "java/lang/IllegalStateException", .fieldLink RX0 13 "SmudgedStar" "nightCount" "I"] ++ wsX00 ++ (vx_atS RX0 46 "java/lang/IllegalStateException" ["java/lang/RuntimeException", "java/lang/Exception"]).filter goodWord)
def wsX0_explains : List Cond := .code yX0_explains cX0_explains 3 (some .boolean) :: ([])
def wsX0_countMisses : List Cond := .code yX0_countMisses cX0_countMisses 5 none :: ([.fieldLink RX0 24 "SmudgedStar" "missedNights" "[I", .methodLink RX0 139 yX0_explains, .static yX0_explains, .initialized RX0, .code yX0_explains cX0_explains 3 (some .boolean)] ++ wsX00)
def wsX0_missesOf : List Cond := .code yX0_missesOf cX0_missesOf 2 (some .int) :: ([.fieldLink RX0 24 "SmudgedStar" "missedNights" "[I"] ++ wsX00)
def wsJ6_bitCount_0f7a4 : List Cond := .code yJ6_bitCount_0f7a4 cJ6_bitCount_0f7a4 1 (some .int) :: ([.constant RJ6 265 (1431655765), .constant RJ6 266 (858993459), .constant RJ6 267 (252645135)])
def wsX0_simplest : List Cond := .code yX0_simplest cX0_simplest 4 (some .int) :: ([.methodLink RX0 111 yX0_allThings, .instanceMethod yX0_allThings, .selects RX0 yX0_allThings yX0_allThings, .initialized RX0, .code yX0_allThings cX0_allThings 1 (some .int), .fieldLink RX0 9 "SmudgedStar" "thingCount" "I", .methodLink RX0 105 yX0_missesOf, .instanceMethod yX0_missesOf, .selects RX0 yX0_missesOf yX0_missesOf, .code yX0_missesOf cX0_missesOf 2 (some .int), .fieldLink RX0 24 "SmudgedStar" "missedNights" "[I", .methodLink RX0 114 yJ6_bitCount_0f7a4, .static yJ6_bitCount_0f7a4, .initialized RJ6, .code yJ6_bitCount_0f7a4 cJ6_bitCount_0f7a4 1 (some .int), .constant RJ6 265 (1431655765), .constant RJ6 266 (858993459), .constant RJ6 267 (252645135)] ++ wsX00)
def wsX0_letAstronomersSee_r1 : List Cond := [Cond.fieldLink RX0 27 "SmudgedStar" "astronomerCount" "I", Cond.fieldLink RX0 30 "SmudgedStar" "blamedThings" "[I", Cond.fieldLink RX0 33 "SmudgedStar" "stubbornnessLeft" "[I", Cond.methodLink RX0 171 yX0_simplest, Cond.instanceMethod yX0_simplest, Cond.selects RX0 yX0_simplest yX0_simplest, Cond.initialized RX0, Cond.code yX0_simplest cX0_simplest 4 (some .int), Cond.methodLink RX0 111 yX0_allThings, Cond.instanceMethod yX0_allThings, Cond.selects RX0 yX0_allThings yX0_allThings, Cond.code yX0_allThings cX0_allThings 1 (some .int), Cond.fieldLink RX0 9 "SmudgedStar" "thingCount" "I", Cond.methodLink RX0 105 yX0_missesOf, Cond.instanceMethod yX0_missesOf, Cond.selects RX0 yX0_missesOf yX0_missesOf, Cond.code yX0_missesOf cX0_missesOf 2 (some .int), Cond.fieldLink RX0 24 "SmudgedStar" "missedNights" "[I", Cond.methodLink RX0 114 yJ6_bitCount_0f7a4, Cond.static yJ6_bitCount_0f7a4, Cond.initialized RJ6, Cond.code yJ6_bitCount_0f7a4 cJ6_bitCount_0f7a4 1 (some .int), Cond.constant RJ6 265 (1431655765), Cond.constant RJ6 266 (858993459)]
def wsX0_letAstronomersSee_r2 : List Cond := [Cond.constant RJ6 267 (252645135), Cond.methodLink RX0 139 yX0_explains, Cond.static yX0_explains, Cond.code yX0_explains cX0_explains 3 (some .boolean), Cond.methodLink RX0 56 yX0_letBlame, Cond.instanceMethod yX0_letBlame, Cond.selects RX0 yX0_letBlame yX0_letBlame, Cond.code yX0_letBlame cX0_letBlame 3 none, Cond.fieldLink RX0 36 "SmudgedStar" "stubbornnessAtFirst" "[I"]
def wsX0_letAstronomersSee : List Cond := .code yX0_letAstronomersSee cX0_letAstronomersSee 6 (some .int) :: ((wsX0_letAstronomersSee_r1 ++ wsX0_letAstronomersSee_r2) ++ wsX00)
def wsX0_writeDown_r1 : List Cond := [Cond.fieldLink RX0 16 "SmudgedStar" "usedThings" "[I", Cond.fieldLink RX0 13 "SmudgedStar" "nightCount" "I", Cond.fieldLink RX0 20 "SmudgedStar" "smudgeSeen" "[Z", Cond.fieldLink RX0 39 "SmudgedStar" "mindsChanged" "I", Cond.methodLink RX0 67 yX0_requireUsableSet, Cond.instanceMethod yX0_requireUsableSet, Cond.selects RX0 yX0_requireUsableSet yX0_requireUsableSet, Cond.initialized RX0, Cond.code yX0_requireUsableSet cX0_requireUsableSet 2 none, Cond.classLink RX0 49 "java/lang/IllegalArgumentException", Cond.initialized "java/lang/IllegalArgumentException", Cond.methodLink RX0 111 yX0_allThings, Cond.instanceMethod yX0_allThings, Cond.selects RX0 yX0_allThings yX0_allThings, Cond.code yX0_allThings cX0_allThings 1 (some .int), Cond.fieldLink RX0 9 "SmudgedStar" "thingCount" "I", Cond.methodLink RX0 70 yX0_requireRoomForNight, Cond.instanceMethod yX0_requireRoomForNight, Cond.selects RX0 yX0_requireRoomForNight yX0_requireRoomForNight, Cond.code yX0_requireRoomForNight cX0_requireRoomForNight 1 none, Cond.classLink RX0 42 "java/lang/IllegalStateException", Cond.initialized "java/lang/IllegalStateException", Cond.methodLink RX0 73 yX0_countMisses, Cond.instanceMethod yX0_countMisses]
def wsX0_writeDown_r2 : List Cond := [Cond.selects RX0 yX0_countMisses yX0_countMisses, Cond.code yX0_countMisses cX0_countMisses 5 none, Cond.fieldLink RX0 24 "SmudgedStar" "missedNights" "[I", Cond.methodLink RX0 139 yX0_explains, Cond.static yX0_explains, Cond.code yX0_explains cX0_explains 3 (some .boolean), Cond.methodLink RX0 77 yX0_letAstronomersSee, Cond.instanceMethod yX0_letAstronomersSee, Cond.selects RX0 yX0_letAstronomersSee yX0_letAstronomersSee, Cond.code yX0_letAstronomersSee cX0_letAstronomersSee 6 (some .int), Cond.fieldLink RX0 27 "SmudgedStar" "astronomerCount" "I", Cond.fieldLink RX0 30 "SmudgedStar" "blamedThings" "[I", Cond.fieldLink RX0 33 "SmudgedStar" "stubbornnessLeft" "[I", Cond.methodLink RX0 171 yX0_simplest, Cond.instanceMethod yX0_simplest, Cond.selects RX0 yX0_simplest yX0_simplest, Cond.code yX0_simplest cX0_simplest 4 (some .int), Cond.methodLink RX0 105 yX0_missesOf, Cond.instanceMethod yX0_missesOf, Cond.selects RX0 yX0_missesOf yX0_missesOf, Cond.code yX0_missesOf cX0_missesOf 2 (some .int), Cond.methodLink RX0 114 yJ6_bitCount_0f7a4, Cond.static yJ6_bitCount_0f7a4, Cond.initialized RJ6]
def wsX0_writeDown_r3 : List Cond := [Cond.code yJ6_bitCount_0f7a4 cJ6_bitCount_0f7a4 1 (some .int), Cond.constant RJ6 265 (1431655765), Cond.constant RJ6 266 (858993459), Cond.constant RJ6 267 (252645135), Cond.methodLink RX0 56 yX0_letBlame, Cond.instanceMethod yX0_letBlame, Cond.selects RX0 yX0_letBlame yX0_letBlame, Cond.code yX0_letBlame cX0_letBlame 3 none, Cond.fieldLink RX0 36 "SmudgedStar" "stubbornnessAtFirst" "[I"]
def wsX0_writeDown : List Cond := .code yX0_writeDown cX0_writeDown 4 (some .int) :: ((wsX0_writeDown_r1 ++ (wsX0_writeDown_r2 ++ wsX0_writeDown_r3)) ++ wsX00 ++ (vx_atS RX0 53 "java/lang/IllegalArgumentException" ["java/lang/RuntimeException", "java/lang/Exception"]).filter goodWord ++ (vx_atS RX0 46 "java/lang/IllegalStateException" ["java/lang/RuntimeException", "java/lang/Exception"]).filter goodWord)
def wsX0_requireNight : List Cond := .code yX0_requireNight cX0_requireNight 2 none :: ([.classLink RX0 187 "java/lang/IndexOutOfBoundsException", .initialized "java/lang/IndexOutOfBoundsException", .fieldLink RX0 13 "SmudgedStar" "nightCount" "I"] ++ wsX00 ++ (vx_atS RX0 191 "java/lang/IndexOutOfBoundsException" ["java/lang/RuntimeException", "java/lang/Exception"]).filter goodWord)
def wsX0_strike : List Cond := .code yX0_strike cX0_strike 3 (some .int) :: ([.fieldLink RX0 16 "SmudgedStar" "usedThings" "[I", .fieldLink RX0 20 "SmudgedStar" "smudgeSeen" "[Z", .fieldLink RX0 13 "SmudgedStar" "nightCount" "I", .methodLink RX0 81 yX0_requireNight, .instanceMethod yX0_requireNight, .selects RX0 yX0_requireNight yX0_requireNight, .initialized RX0, .code yX0_requireNight cX0_requireNight 2 none, .classLink RX0 187 "java/lang/IndexOutOfBoundsException", .initialized "java/lang/IndexOutOfBoundsException", .methodLink RX0 73 yX0_countMisses, .instanceMethod yX0_countMisses, .selects RX0 yX0_countMisses yX0_countMisses, .code yX0_countMisses cX0_countMisses 5 none, .fieldLink RX0 24 "SmudgedStar" "missedNights" "[I", .methodLink RX0 139 yX0_explains, .static yX0_explains, .code yX0_explains cX0_explains 3 (some .boolean)] ++ wsX00 ++ (vx_atS RX0 191 "java/lang/IndexOutOfBoundsException" ["java/lang/RuntimeException", "java/lang/Exception"]).filter goodWord)
def wsX0_things : List Cond := .code yX0_things cX0_things 1 (some .int) :: ([.fieldLink RX0 9 "SmudgedStar" "thingCount" "I"] ++ wsX00)
def wsX0_requireThing : List Cond := .code yX0_requireThing cX0_requireThing 2 none :: ([.classLink RX0 187 "java/lang/IndexOutOfBoundsException", .initialized "java/lang/IndexOutOfBoundsException", .fieldLink RX0 9 "SmudgedStar" "thingCount" "I"] ++ wsX00 ++ (vx_atS RX0 191 "java/lang/IndexOutOfBoundsException" ["java/lang/RuntimeException", "java/lang/Exception"]).filter goodWord)
def wsX0_setOf : List Cond := .code yX0_setOf cX0_setOf 1 (some .int) :: ([])
def wsX0_holds : List Cond := .code yX0_holds cX0_holds 2 (some .boolean) :: ([.methodLink RX0 95 yX0_setOf, .static yX0_setOf, .initialized RX0, .code yX0_setOf cX0_setOf 1 (some .int)])
def wsX0_nightsWith : List Cond := .code yX0_nightsWith cX0_nightsWith 4 (some .int) :: ([.fieldLink RX0 13 "SmudgedStar" "nightCount" "I", .fieldLink RX0 16 "SmudgedStar" "usedThings" "[I", .methodLink RX0 84 yX0_requireThing, .instanceMethod yX0_requireThing, .selects RX0 yX0_requireThing yX0_requireThing, .initialized RX0, .code yX0_requireThing cX0_requireThing 2 none, .classLink RX0 187 "java/lang/IndexOutOfBoundsException", .initialized "java/lang/IndexOutOfBoundsException", .fieldLink RX0 9 "SmudgedStar" "thingCount" "I", .methodLink RX0 87 yX0_holds, .static yX0_holds, .code yX0_holds cX0_holds 2 (some .boolean), .methodLink RX0 95 yX0_setOf, .static yX0_setOf, .code yX0_setOf cX0_setOf 1 (some .int)] ++ wsX00 ++ (vx_atS RX0 191 "java/lang/IndexOutOfBoundsException" ["java/lang/RuntimeException", "java/lang/Exception"]).filter goodWord)
def wsX0_smudgesWith : List Cond := .code yX0_smudgesWith cX0_smudgesWith 4 (some .int) :: ([.fieldLink RX0 13 "SmudgedStar" "nightCount" "I", .fieldLink RX0 20 "SmudgedStar" "smudgeSeen" "[Z", .fieldLink RX0 16 "SmudgedStar" "usedThings" "[I", .methodLink RX0 84 yX0_requireThing, .instanceMethod yX0_requireThing, .selects RX0 yX0_requireThing yX0_requireThing, .initialized RX0, .code yX0_requireThing cX0_requireThing 2 none, .classLink RX0 187 "java/lang/IndexOutOfBoundsException", .initialized "java/lang/IndexOutOfBoundsException", .fieldLink RX0 9 "SmudgedStar" "thingCount" "I", .methodLink RX0 87 yX0_holds, .static yX0_holds, .code yX0_holds cX0_holds 2 (some .boolean), .methodLink RX0 95 yX0_setOf, .static yX0_setOf, .code yX0_setOf cX0_setOf 1 (some .int)] ++ wsX00 ++ (vx_atS RX0 191 "java/lang/IndexOutOfBoundsException" ["java/lang/RuntimeException", "java/lang/Exception"]).filter goodWord)
def wsX0_clearedThings : List Cond := .code yX0_clearedThings cX0_clearedThings 3 (some .int) :: ([.fieldLink RX0 13 "SmudgedStar" "nightCount" "I", .fieldLink RX0 20 "SmudgedStar" "smudgeSeen" "[Z", .fieldLink RX0 16 "SmudgedStar" "usedThings" "[I"] ++ wsX00)
def wsX0_isCleared : List Cond := .code yX0_isCleared cX0_isCleared 2 (some .boolean) :: ([.methodLink RX0 84 yX0_requireThing, .instanceMethod yX0_requireThing, .selects RX0 yX0_requireThing yX0_requireThing, .initialized RX0, .code yX0_requireThing cX0_requireThing 2 none, .classLink RX0 187 "java/lang/IndexOutOfBoundsException", .initialized "java/lang/IndexOutOfBoundsException", .fieldLink RX0 9 "SmudgedStar" "thingCount" "I", .methodLink RX0 91 yX0_clearedThings, .instanceMethod yX0_clearedThings, .selects RX0 yX0_clearedThings yX0_clearedThings, .code yX0_clearedThings cX0_clearedThings 3 (some .int), .fieldLink RX0 13 "SmudgedStar" "nightCount" "I", .fieldLink RX0 20 "SmudgedStar" "smudgeSeen" "[Z", .fieldLink RX0 16 "SmudgedStar" "usedThings" "[I", .methodLink RX0 87 yX0_holds, .static yX0_holds, .code yX0_holds cX0_holds 2 (some .boolean), .methodLink RX0 95 yX0_setOf, .static yX0_setOf, .code yX0_setOf cX0_setOf 1 (some .int)] ++ wsX00 ++ (vx_atS RX0 191 "java/lang/IndexOutOfBoundsException" ["java/lang/RuntimeException", "java/lang/Exception"]).filter goodWord)
def wsX0_isProved : List Cond := .code yX0_isProved cX0_isProved 5 (some .boolean) :: ([.fieldLink RX0 13 "SmudgedStar" "nightCount" "I", .fieldLink RX0 16 "SmudgedStar" "usedThings" "[I", .fieldLink RX0 20 "SmudgedStar" "smudgeSeen" "[Z", .methodLink RX0 84 yX0_requireThing, .instanceMethod yX0_requireThing, .selects RX0 yX0_requireThing yX0_requireThing, .initialized RX0, .code yX0_requireThing cX0_requireThing 2 none, .classLink RX0 187 "java/lang/IndexOutOfBoundsException", .initialized "java/lang/IndexOutOfBoundsException", .fieldLink RX0 9 "SmudgedStar" "thingCount" "I", .methodLink RX0 91 yX0_clearedThings, .instanceMethod yX0_clearedThings, .selects RX0 yX0_clearedThings yX0_clearedThings, .code yX0_clearedThings cX0_clearedThings 3 (some .int), .methodLink RX0 95 yX0_setOf, .static yX0_setOf, .code yX0_setOf cX0_setOf 1 (some .int), .methodLink RX0 87 yX0_holds, .static yX0_holds, .code yX0_holds cX0_holds 2 (some .boolean)] ++ wsX00 ++ (vx_atS RX0 191 "java/lang/IndexOutOfBoundsException" ["java/lang/RuntimeException", "java/lang/Exception"]).filter goodWord)
def wsX0_explanationsMeeting : List Cond := .code yX0_explanationsMeeting cX0_explanationsMeeting 4 (some .int) :: ([.methodLink RX0 111 yX0_allThings, .instanceMethod yX0_allThings, .selects RX0 yX0_allThings yX0_allThings, .initialized RX0, .code yX0_allThings cX0_allThings 1 (some .int), .fieldLink RX0 9 "SmudgedStar" "thingCount" "I", .methodLink RX0 105 yX0_missesOf, .instanceMethod yX0_missesOf, .selects RX0 yX0_missesOf yX0_missesOf, .code yX0_missesOf cX0_missesOf 2 (some .int), .fieldLink RX0 24 "SmudgedStar" "missedNights" "[I"] ++ wsX00)
def wsX0_setsWith : List Cond := .code yX0_setsWith cX0_setsWith 2 (some .int) :: ([.methodLink RX0 84 yX0_requireThing, .instanceMethod yX0_requireThing, .selects RX0 yX0_requireThing yX0_requireThing, .initialized RX0, .code yX0_requireThing cX0_requireThing 2 none, .classLink RX0 187 "java/lang/IndexOutOfBoundsException", .initialized "java/lang/IndexOutOfBoundsException", .fieldLink RX0 9 "SmudgedStar" "thingCount" "I", .methodLink RX0 95 yX0_setOf, .static yX0_setOf, .code yX0_setOf cX0_setOf 1 (some .int), .methodLink RX0 99 yX0_explanationsMeeting, .instanceMethod yX0_explanationsMeeting, .selects RX0 yX0_explanationsMeeting yX0_explanationsMeeting, .code yX0_explanationsMeeting cX0_explanationsMeeting 4 (some .int), .methodLink RX0 111 yX0_allThings, .instanceMethod yX0_allThings, .selects RX0 yX0_allThings yX0_allThings, .code yX0_allThings cX0_allThings 1 (some .int), .methodLink RX0 105 yX0_missesOf, .instanceMethod yX0_missesOf, .selects RX0 yX0_missesOf yX0_missesOf, .code yX0_missesOf cX0_missesOf 2 (some .int), .fieldLink RX0 24 "SmudgedStar" "missedNights" "[I"] ++ wsX00 ++ (vx_atS RX0 191 "java/lang/IndexOutOfBoundsException" ["java/lang/RuntimeException", "java/lang/Exception"]).filter goodWord)
def wsX0_nights : List Cond := .code yX0_nights cX0_nights 1 (some .int) :: ([.fieldLink RX0 13 "SmudgedStar" "nightCount" "I"] ++ wsX00)
def wsX0_smudges : List Cond := .code yX0_smudges cX0_smudges 3 (some .int) :: ([.fieldLink RX0 13 "SmudgedStar" "nightCount" "I", .fieldLink RX0 20 "SmudgedStar" "smudgeSeen" "[Z"] ++ wsX00)
def wsX0_usedIn : List Cond := .code yX0_usedIn cX0_usedIn 2 (some .int) :: ([.fieldLink RX0 16 "SmudgedStar" "usedThings" "[I", .methodLink RX0 81 yX0_requireNight, .instanceMethod yX0_requireNight, .selects RX0 yX0_requireNight yX0_requireNight, .initialized RX0, .code yX0_requireNight cX0_requireNight 2 none, .classLink RX0 187 "java/lang/IndexOutOfBoundsException", .initialized "java/lang/IndexOutOfBoundsException", .fieldLink RX0 13 "SmudgedStar" "nightCount" "I"] ++ wsX00 ++ (vx_atS RX0 191 "java/lang/IndexOutOfBoundsException" ["java/lang/RuntimeException", "java/lang/Exception"]).filter goodWord)
def wsX0_isSmudged : List Cond := .code yX0_isSmudged cX0_isSmudged 2 (some .boolean) :: ([.fieldLink RX0 20 "SmudgedStar" "smudgeSeen" "[Z", .methodLink RX0 81 yX0_requireNight, .instanceMethod yX0_requireNight, .selects RX0 yX0_requireNight yX0_requireNight, .initialized RX0, .code yX0_requireNight cX0_requireNight 2 none, .classLink RX0 187 "java/lang/IndexOutOfBoundsException", .initialized "java/lang/IndexOutOfBoundsException", .fieldLink RX0 13 "SmudgedStar" "nightCount" "I"] ++ wsX00 ++ (vx_atS RX0 191 "java/lang/IndexOutOfBoundsException" ["java/lang/RuntimeException", "java/lang/Exception"]).filter goodWord)
def wsX0_nightsToDoubt : List Cond := .code yX0_nightsToDoubt cX0_nightsToDoubt 3 (some .int) :: ([.fieldLink RX0 13 "SmudgedStar" "nightCount" "I", .methodLink RX0 123 Lib.Math.min.name, .static Lib.Math.min.name, .initialized "java/lang/Math", .code Lib.Math.min.name Lib.Math.min.code 2 (some .int), .methodLink RX0 111 yX0_allThings, .instanceMethod yX0_allThings, .selects RX0 yX0_allThings yX0_allThings, .initialized RX0, .code yX0_allThings cX0_allThings 1 (some .int), .fieldLink RX0 9 "SmudgedStar" "thingCount" "I", .methodLink RX0 105 yX0_missesOf, .instanceMethod yX0_missesOf, .selects RX0 yX0_missesOf yX0_missesOf, .code yX0_missesOf cX0_missesOf 2 (some .int), .fieldLink RX0 24 "SmudgedStar" "missedNights" "[I"] ++ wsX00)
def wsX0_agree : List Cond := .code yX0_agree cX0_agree 1 (some .boolean) :: ([.methodLink RX0 102 yX0_nightsToDoubt, .instanceMethod yX0_nightsToDoubt, .selects RX0 yX0_nightsToDoubt yX0_nightsToDoubt, .initialized RX0, .code yX0_nightsToDoubt cX0_nightsToDoubt 3 (some .int), .fieldLink RX0 13 "SmudgedStar" "nightCount" "I", .methodLink RX0 123 Lib.Math.min.name, .static Lib.Math.min.name, .initialized "java/lang/Math", .code Lib.Math.min.name Lib.Math.min.code 2 (some .int), .methodLink RX0 111 yX0_allThings, .instanceMethod yX0_allThings, .selects RX0 yX0_allThings yX0_allThings, .code yX0_allThings cX0_allThings 1 (some .int), .fieldLink RX0 9 "SmudgedStar" "thingCount" "I", .methodLink RX0 105 yX0_missesOf, .instanceMethod yX0_missesOf, .selects RX0 yX0_missesOf yX0_missesOf, .code yX0_missesOf cX0_missesOf 2 (some .int), .fieldLink RX0 24 "SmudgedStar" "missedNights" "[I"] ++ wsX00)
def wsX0_astronomers : List Cond := .code yX0_astronomers cX0_astronomers 1 (some .int) :: ([.fieldLink RX0 27 "SmudgedStar" "astronomerCount" "I"] ++ wsX00)
def wsX0_blamedBy : List Cond := .code yX0_blamedBy cX0_blamedBy 2 (some .int) :: ([.fieldLink RX0 30 "SmudgedStar" "blamedThings" "[I", .methodLink RX0 60 yX0_requireAstronomer, .instanceMethod yX0_requireAstronomer, .selects RX0 yX0_requireAstronomer yX0_requireAstronomer, .initialized RX0, .code yX0_requireAstronomer cX0_requireAstronomer 2 none, .classLink RX0 187 "java/lang/IndexOutOfBoundsException", .initialized "java/lang/IndexOutOfBoundsException", .fieldLink RX0 27 "SmudgedStar" "astronomerCount" "I"] ++ wsX00 ++ (vx_atS RX0 191 "java/lang/IndexOutOfBoundsException" ["java/lang/RuntimeException", "java/lang/Exception"]).filter goodWord)
def wsX0_stubbornnessOf : List Cond := .code yX0_stubbornnessOf cX0_stubbornnessOf 2 (some .int) :: ([.fieldLink RX0 33 "SmudgedStar" "stubbornnessLeft" "[I", .methodLink RX0 60 yX0_requireAstronomer, .instanceMethod yX0_requireAstronomer, .selects RX0 yX0_requireAstronomer yX0_requireAstronomer, .initialized RX0, .code yX0_requireAstronomer cX0_requireAstronomer 2 none, .classLink RX0 187 "java/lang/IndexOutOfBoundsException", .initialized "java/lang/IndexOutOfBoundsException", .fieldLink RX0 27 "SmudgedStar" "astronomerCount" "I"] ++ wsX00 ++ (vx_atS RX0 191 "java/lang/IndexOutOfBoundsException" ["java/lang/RuntimeException", "java/lang/Exception"]).filter goodWord)
def wsX0_unexplainedBy : List Cond := .code yX0_unexplainedBy cX0_unexplainedBy 2 (some .int) :: ([.fieldLink RX0 30 "SmudgedStar" "blamedThings" "[I", .methodLink RX0 60 yX0_requireAstronomer, .instanceMethod yX0_requireAstronomer, .selects RX0 yX0_requireAstronomer yX0_requireAstronomer, .initialized RX0, .code yX0_requireAstronomer cX0_requireAstronomer 2 none, .classLink RX0 187 "java/lang/IndexOutOfBoundsException", .initialized "java/lang/IndexOutOfBoundsException", .fieldLink RX0 27 "SmudgedStar" "astronomerCount" "I", .methodLink RX0 105 yX0_missesOf, .instanceMethod yX0_missesOf, .selects RX0 yX0_missesOf yX0_missesOf, .code yX0_missesOf cX0_missesOf 2 (some .int), .fieldLink RX0 24 "SmudgedStar" "missedNights" "[I"] ++ wsX00 ++ (vx_atS RX0 191 "java/lang/IndexOutOfBoundsException" ["java/lang/RuntimeException", "java/lang/Exception"]).filter goodWord)
def wsX0_votesFor : List Cond := .code yX0_votesFor cX0_votesFor 4 (some .int) :: ([.fieldLink RX0 27 "SmudgedStar" "astronomerCount" "I", .fieldLink RX0 30 "SmudgedStar" "blamedThings" "[I", .methodLink RX0 84 yX0_requireThing, .instanceMethod yX0_requireThing, .selects RX0 yX0_requireThing yX0_requireThing, .initialized RX0, .code yX0_requireThing cX0_requireThing 2 none, .classLink RX0 187 "java/lang/IndexOutOfBoundsException", .initialized "java/lang/IndexOutOfBoundsException", .fieldLink RX0 9 "SmudgedStar" "thingCount" "I", .methodLink RX0 87 yX0_holds, .static yX0_holds, .code yX0_holds cX0_holds 2 (some .boolean), .methodLink RX0 95 yX0_setOf, .static yX0_setOf, .code yX0_setOf cX0_setOf 1 (some .int)] ++ wsX00 ++ (vx_atS RX0 191 "java/lang/IndexOutOfBoundsException" ["java/lang/RuntimeException", "java/lang/Exception"]).filter goodWord)
def wsX0_vote : List Cond := .code yX0_vote cX0_vote 3 (some .int) :: ([.fieldLink RX0 9 "SmudgedStar" "thingCount" "I", .fieldLink RX0 27 "SmudgedStar" "astronomerCount" "I", .methodLink RX0 108 yX0_votesFor, .instanceMethod yX0_votesFor, .selects RX0 yX0_votesFor yX0_votesFor, .initialized RX0, .code yX0_votesFor cX0_votesFor 4 (some .int), .fieldLink RX0 30 "SmudgedStar" "blamedThings" "[I", .methodLink RX0 84 yX0_requireThing, .instanceMethod yX0_requireThing, .selects RX0 yX0_requireThing yX0_requireThing, .code yX0_requireThing cX0_requireThing 2 none, .classLink RX0 187 "java/lang/IndexOutOfBoundsException", .initialized "java/lang/IndexOutOfBoundsException", .methodLink RX0 87 yX0_holds, .static yX0_holds, .code yX0_holds cX0_holds 2 (some .boolean), .methodLink RX0 95 yX0_setOf, .static yX0_setOf, .code yX0_setOf cX0_setOf 1 (some .int)] ++ wsX00 ++ (vx_atS RX0 191 "java/lang/IndexOutOfBoundsException" ["java/lang/RuntimeException", "java/lang/Exception"]).filter goodWord)
def wsX0_changesOfMind : List Cond := .code yX0_changesOfMind cX0_changesOfMind 1 (some .int) :: ([.fieldLink RX0 39 "SmudgedStar" "mindsChanged" "I"] ++ wsX00)
def wsX0_explainsAll : List Cond := .code yX0_explainsAll cX0_explainsAll 2 (some .boolean) :: ([.methodLink RX0 64 yX0_requireSet, .instanceMethod yX0_requireSet, .selects RX0 yX0_requireSet yX0_requireSet, .initialized RX0, .code yX0_requireSet cX0_requireSet 2 none, .classLink RX0 49 "java/lang/IllegalArgumentException", .initialized "java/lang/IllegalArgumentException", .methodLink RX0 111 yX0_allThings, .instanceMethod yX0_allThings, .selects RX0 yX0_allThings yX0_allThings, .code yX0_allThings cX0_allThings 1 (some .int), .fieldLink RX0 9 "SmudgedStar" "thingCount" "I", .methodLink RX0 105 yX0_missesOf, .instanceMethod yX0_missesOf, .selects RX0 yX0_missesOf yX0_missesOf, .code yX0_missesOf cX0_missesOf 2 (some .int), .fieldLink RX0 24 "SmudgedStar" "missedNights" "[I"] ++ wsX00 ++ (vx_atS RX0 53 "java/lang/IllegalArgumentException" ["java/lang/RuntimeException", "java/lang/Exception"]).filter goodWord)
def wsX0_explanations : List Cond := .code yX0_explanations cX0_explanations 3 (some .int) :: ([.methodLink RX0 111 yX0_allThings, .instanceMethod yX0_allThings, .selects RX0 yX0_allThings yX0_allThings, .initialized RX0, .code yX0_allThings cX0_allThings 1 (some .int), .fieldLink RX0 9 "SmudgedStar" "thingCount" "I", .methodLink RX0 105 yX0_missesOf, .instanceMethod yX0_missesOf, .selects RX0 yX0_missesOf yX0_missesOf, .code yX0_missesOf cX0_missesOf 2 (some .int), .fieldLink RX0 24 "SmudgedStar" "missedNights" "[I"] ++ wsX00)
def wsX0_surelyToBlame : List Cond := .code yX0_surelyToBlame cX0_surelyToBlame 3 (some .int) :: ([.methodLink RX0 119 yX0_agree, .instanceMethod yX0_agree, .selects RX0 yX0_agree yX0_agree, .initialized RX0, .code yX0_agree cX0_agree 1 (some .boolean), .methodLink RX0 102 yX0_nightsToDoubt, .instanceMethod yX0_nightsToDoubt, .selects RX0 yX0_nightsToDoubt yX0_nightsToDoubt, .code yX0_nightsToDoubt cX0_nightsToDoubt 3 (some .int), .fieldLink RX0 13 "SmudgedStar" "nightCount" "I", .methodLink RX0 123 Lib.Math.min.name, .static Lib.Math.min.name, .initialized "java/lang/Math", .code Lib.Math.min.name Lib.Math.min.code 2 (some .int), .methodLink RX0 111 yX0_allThings, .instanceMethod yX0_allThings, .selects RX0 yX0_allThings yX0_allThings, .code yX0_allThings cX0_allThings 1 (some .int), .fieldLink RX0 9 "SmudgedStar" "thingCount" "I", .methodLink RX0 105 yX0_missesOf, .instanceMethod yX0_missesOf, .selects RX0 yX0_missesOf yX0_missesOf, .code yX0_missesOf cX0_missesOf 2 (some .int), .fieldLink RX0 24 "SmudgedStar" "missedNights" "[I"] ++ wsX00)
def wsX0_leftIfSmudged : List Cond := .code yX0_leftIfSmudged cX0_leftIfSmudged 2 (some .int) :: ([.methodLink RX0 67 yX0_requireUsableSet, .instanceMethod yX0_requireUsableSet, .selects RX0 yX0_requireUsableSet yX0_requireUsableSet, .initialized RX0, .code yX0_requireUsableSet cX0_requireUsableSet 2 none, .classLink RX0 49 "java/lang/IllegalArgumentException", .initialized "java/lang/IllegalArgumentException", .methodLink RX0 111 yX0_allThings, .instanceMethod yX0_allThings, .selects RX0 yX0_allThings yX0_allThings, .code yX0_allThings cX0_allThings 1 (some .int), .fieldLink RX0 9 "SmudgedStar" "thingCount" "I", .methodLink RX0 99 yX0_explanationsMeeting, .instanceMethod yX0_explanationsMeeting, .selects RX0 yX0_explanationsMeeting yX0_explanationsMeeting, .code yX0_explanationsMeeting cX0_explanationsMeeting 4 (some .int), .methodLink RX0 105 yX0_missesOf, .instanceMethod yX0_missesOf, .selects RX0 yX0_missesOf yX0_missesOf, .code yX0_missesOf cX0_missesOf 2 (some .int), .fieldLink RX0 24 "SmudgedStar" "missedNights" "[I"] ++ wsX00 ++ (vx_atS RX0 53 "java/lang/IllegalArgumentException" ["java/lang/RuntimeException", "java/lang/Exception"]).filter goodWord)
def wsX0_bestNight : List Cond := .code yX0_bestNight cX0_bestNight 8 (some .int) :: ([.methodLink RX0 132 Lib.Math.max.name, .static Lib.Math.max.name, .initialized "java/lang/Math", .code Lib.Math.max.name Lib.Math.max.code 2 (some .int), .methodLink RX0 129 yX0_explanations, .instanceMethod yX0_explanations, .selects RX0 yX0_explanations yX0_explanations, .initialized RX0, .code yX0_explanations cX0_explanations 3 (some .int), .methodLink RX0 111 yX0_allThings, .instanceMethod yX0_allThings, .selects RX0 yX0_allThings yX0_allThings, .code yX0_allThings cX0_allThings 1 (some .int), .fieldLink RX0 9 "SmudgedStar" "thingCount" "I", .methodLink RX0 105 yX0_missesOf, .instanceMethod yX0_missesOf, .selects RX0 yX0_missesOf yX0_missesOf, .code yX0_missesOf cX0_missesOf 2 (some .int), .fieldLink RX0 24 "SmudgedStar" "missedNights" "[I", .methodLink RX0 99 yX0_explanationsMeeting, .instanceMethod yX0_explanationsMeeting, .selects RX0 yX0_explanationsMeeting yX0_explanationsMeeting, .code yX0_explanationsMeeting cX0_explanationsMeeting 4 (some .int)] ++ wsX00)
def wsX0_wouldAgreeWith : List Cond := .code yX0_wouldAgreeWith cX0_wouldAgreeWith 4 (some .boolean) :: ([.methodLink RX0 111 yX0_allThings, .instanceMethod yX0_allThings, .selects RX0 yX0_allThings yX0_allThings, .initialized RX0, .code yX0_allThings cX0_allThings 1 (some .int), .fieldLink RX0 9 "SmudgedStar" "thingCount" "I", .methodLink RX0 105 yX0_missesOf, .instanceMethod yX0_missesOf, .selects RX0 yX0_missesOf yX0_missesOf, .code yX0_missesOf cX0_missesOf 2 (some .int), .fieldLink RX0 24 "SmudgedStar" "missedNights" "[I", .methodLink RX0 139 yX0_explains, .static yX0_explains, .code yX0_explains cX0_explains 3 (some .boolean)] ++ wsX00)
def wsX0_wouldChange_r1 : List Cond := [Cond.fieldLink RX0 27 "SmudgedStar" "astronomerCount" "I", Cond.fieldLink RX0 30 "SmudgedStar" "blamedThings" "[I", Cond.fieldLink RX0 33 "SmudgedStar" "stubbornnessLeft" "[I", Cond.methodLink RX0 67 yX0_requireUsableSet, Cond.instanceMethod yX0_requireUsableSet, Cond.selects RX0 yX0_requireUsableSet yX0_requireUsableSet, Cond.initialized RX0, Cond.code yX0_requireUsableSet cX0_requireUsableSet 2 none, Cond.classLink RX0 49 "java/lang/IllegalArgumentException", Cond.initialized "java/lang/IllegalArgumentException", Cond.methodLink RX0 111 yX0_allThings, Cond.instanceMethod yX0_allThings, Cond.selects RX0 yX0_allThings yX0_allThings, Cond.code yX0_allThings cX0_allThings 1 (some .int), Cond.fieldLink RX0 9 "SmudgedStar" "thingCount" "I", Cond.methodLink RX0 70 yX0_requireRoomForNight, Cond.instanceMethod yX0_requireRoomForNight, Cond.selects RX0 yX0_requireRoomForNight yX0_requireRoomForNight, Cond.code yX0_requireRoomForNight cX0_requireRoomForNight 1 none, Cond.classLink RX0 42 "java/lang/IllegalStateException", Cond.initialized "java/lang/IllegalStateException", Cond.fieldLink RX0 13 "SmudgedStar" "nightCount" "I", Cond.methodLink RX0 135 yX0_wouldAgreeWith, Cond.instanceMethod yX0_wouldAgreeWith]
def wsX0_wouldChange_r2 : List Cond := [Cond.selects RX0 yX0_wouldAgreeWith yX0_wouldAgreeWith, Cond.code yX0_wouldAgreeWith cX0_wouldAgreeWith 4 (some .boolean), Cond.methodLink RX0 105 yX0_missesOf, Cond.instanceMethod yX0_missesOf, Cond.selects RX0 yX0_missesOf yX0_missesOf, Cond.code yX0_missesOf cX0_missesOf 2 (some .int), Cond.fieldLink RX0 24 "SmudgedStar" "missedNights" "[I", Cond.methodLink RX0 139 yX0_explains, Cond.static yX0_explains, Cond.code yX0_explains cX0_explains 3 (some .boolean)]
def wsX0_wouldChange : List Cond := .code yX0_wouldChange cX0_wouldChange 5 (some .int) :: ((wsX0_wouldChange_r1 ++ wsX0_wouldChange_r2) ++ wsX00 ++ (vx_atS RX0 53 "java/lang/IllegalArgumentException" ["java/lang/RuntimeException", "java/lang/Exception"]).filter goodWord ++ (vx_atS RX0 46 "java/lang/IllegalStateException" ["java/lang/RuntimeException", "java/lang/Exception"]).filter goodWord)
def wsX0_meanBlame : List Cond := .code yX0_meanBlame cX0_meanBlame 3 (some .double) :: ([.fieldLink RX0 27 "SmudgedStar" "astronomerCount" "I", .fieldLink RX0 30 "SmudgedStar" "blamedThings" "[I", .methodLink RX0 114 yJ6_bitCount_0f7a4, .static yJ6_bitCount_0f7a4, .initialized RJ6, .code yJ6_bitCount_0f7a4 cJ6_bitCount_0f7a4 1 (some .int), .constant RJ6 265 (1431655765), .constant RJ6 266 (858993459), .constant RJ6 267 (252645135)] ++ wsX00)
def wsX0_mixed : List Cond := .code yX0_mixed cX0_mixed 4 (some .long) :: ([.constantLong RX0 202 (31)])
def wsX0_oneIf : List Cond := .code yX0_oneIf cX0_oneIf 1 (some .long) :: ([])
def wsX0_mixedWithThings_r1 : List Cond := [Cond.fieldLink RX0 9 "SmudgedStar" "thingCount" "I", Cond.methodLink RX0 204 yX0_nightsWith, Cond.instanceMethod yX0_nightsWith, Cond.selects RX0 yX0_nightsWith yX0_nightsWith, Cond.initialized RX0, Cond.code yX0_nightsWith cX0_nightsWith 4 (some .int), Cond.fieldLink RX0 13 "SmudgedStar" "nightCount" "I", Cond.fieldLink RX0 16 "SmudgedStar" "usedThings" "[I", Cond.methodLink RX0 84 yX0_requireThing, Cond.instanceMethod yX0_requireThing, Cond.selects RX0 yX0_requireThing yX0_requireThing, Cond.code yX0_requireThing cX0_requireThing 2 none, Cond.classLink RX0 187 "java/lang/IndexOutOfBoundsException", Cond.initialized "java/lang/IndexOutOfBoundsException", Cond.methodLink RX0 87 yX0_holds, Cond.static yX0_holds, Cond.code yX0_holds cX0_holds 2 (some .boolean), Cond.methodLink RX0 95 yX0_setOf, Cond.static yX0_setOf, Cond.code yX0_setOf cX0_setOf 1 (some .int), Cond.methodLink RX0 148 yX0_mixed, Cond.static yX0_mixed, Cond.code yX0_mixed cX0_mixed 4 (some .long), Cond.constantLong RX0 202 (31)]
def wsX0_mixedWithThings_r2 : List Cond := [Cond.methodLink RX0 207 yX0_smudgesWith, Cond.instanceMethod yX0_smudgesWith, Cond.selects RX0 yX0_smudgesWith yX0_smudgesWith, Cond.code yX0_smudgesWith cX0_smudgesWith 4 (some .int), Cond.fieldLink RX0 20 "SmudgedStar" "smudgeSeen" "[Z", Cond.methodLink RX0 210 yX0_isCleared, Cond.instanceMethod yX0_isCleared, Cond.selects RX0 yX0_isCleared yX0_isCleared, Cond.code yX0_isCleared cX0_isCleared 2 (some .boolean), Cond.methodLink RX0 91 yX0_clearedThings, Cond.instanceMethod yX0_clearedThings, Cond.selects RX0 yX0_clearedThings yX0_clearedThings, Cond.code yX0_clearedThings cX0_clearedThings 3 (some .int), Cond.methodLink RX0 158 yX0_oneIf, Cond.static yX0_oneIf, Cond.code yX0_oneIf cX0_oneIf 1 (some .long), Cond.methodLink RX0 214 yX0_isProved, Cond.instanceMethod yX0_isProved, Cond.selects RX0 yX0_isProved yX0_isProved, Cond.code yX0_isProved cX0_isProved 5 (some .boolean), Cond.methodLink RX0 217 yX0_setsWith, Cond.instanceMethod yX0_setsWith, Cond.selects RX0 yX0_setsWith yX0_setsWith, Cond.code yX0_setsWith cX0_setsWith 2 (some .int)]
def wsX0_mixedWithThings_r3 : List Cond := [Cond.methodLink RX0 99 yX0_explanationsMeeting, Cond.instanceMethod yX0_explanationsMeeting, Cond.selects RX0 yX0_explanationsMeeting yX0_explanationsMeeting, Cond.code yX0_explanationsMeeting cX0_explanationsMeeting 4 (some .int), Cond.methodLink RX0 111 yX0_allThings, Cond.instanceMethod yX0_allThings, Cond.selects RX0 yX0_allThings yX0_allThings, Cond.code yX0_allThings cX0_allThings 1 (some .int), Cond.methodLink RX0 105 yX0_missesOf, Cond.instanceMethod yX0_missesOf, Cond.selects RX0 yX0_missesOf yX0_missesOf, Cond.code yX0_missesOf cX0_missesOf 2 (some .int), Cond.fieldLink RX0 24 "SmudgedStar" "missedNights" "[I", Cond.methodLink RX0 108 yX0_votesFor, Cond.instanceMethod yX0_votesFor, Cond.selects RX0 yX0_votesFor yX0_votesFor, Cond.code yX0_votesFor cX0_votesFor 4 (some .int), Cond.fieldLink RX0 27 "SmudgedStar" "astronomerCount" "I", Cond.fieldLink RX0 30 "SmudgedStar" "blamedThings" "[I"]
def wsX0_mixedWithThings : List Cond := .code yX0_mixedWithThings cX0_mixedWithThings 6 (some .long) :: ((wsX0_mixedWithThings_r1 ++ (wsX0_mixedWithThings_r2 ++ wsX0_mixedWithThings_r3)) ++ wsX00 ++ (vx_atS RX0 191 "java/lang/IndexOutOfBoundsException" ["java/lang/RuntimeException", "java/lang/Exception"]).filter goodWord)
def wsX0_mixedWithNights_r1 : List Cond := [Cond.fieldLink RX0 13 "SmudgedStar" "nightCount" "I", Cond.methodLink RX0 220 yX0_usedIn, Cond.instanceMethod yX0_usedIn, Cond.selects RX0 yX0_usedIn yX0_usedIn, Cond.initialized RX0, Cond.code yX0_usedIn cX0_usedIn 2 (some .int), Cond.fieldLink RX0 16 "SmudgedStar" "usedThings" "[I", Cond.methodLink RX0 81 yX0_requireNight, Cond.instanceMethod yX0_requireNight, Cond.selects RX0 yX0_requireNight yX0_requireNight, Cond.code yX0_requireNight cX0_requireNight 2 none, Cond.classLink RX0 187 "java/lang/IndexOutOfBoundsException", Cond.initialized "java/lang/IndexOutOfBoundsException", Cond.methodLink RX0 148 yX0_mixed, Cond.static yX0_mixed, Cond.code yX0_mixed cX0_mixed 4 (some .long), Cond.constantLong RX0 202 (31), Cond.methodLink RX0 223 yX0_isSmudged, Cond.instanceMethod yX0_isSmudged, Cond.selects RX0 yX0_isSmudged yX0_isSmudged, Cond.code yX0_isSmudged cX0_isSmudged 2 (some .boolean), Cond.fieldLink RX0 20 "SmudgedStar" "smudgeSeen" "[Z", Cond.methodLink RX0 158 yX0_oneIf, Cond.static yX0_oneIf]
def wsX0_mixedWithNights_r2 : List Cond := [Cond.code yX0_oneIf cX0_oneIf 1 (some .long)]
def wsX0_mixedWithNights : List Cond := .code yX0_mixedWithNights cX0_mixedWithNights 6 (some .long) :: ((wsX0_mixedWithNights_r1 ++ wsX0_mixedWithNights_r2) ++ wsX00 ++ (vx_atS RX0 191 "java/lang/IndexOutOfBoundsException" ["java/lang/RuntimeException", "java/lang/Exception"]).filter goodWord)
def wsX0_mixedWithAstronomers_r1 : List Cond := [Cond.fieldLink RX0 27 "SmudgedStar" "astronomerCount" "I", Cond.methodLink RX0 226 yX0_blamedBy, Cond.instanceMethod yX0_blamedBy, Cond.selects RX0 yX0_blamedBy yX0_blamedBy, Cond.initialized RX0, Cond.code yX0_blamedBy cX0_blamedBy 2 (some .int), Cond.fieldLink RX0 30 "SmudgedStar" "blamedThings" "[I", Cond.methodLink RX0 60 yX0_requireAstronomer, Cond.instanceMethod yX0_requireAstronomer, Cond.selects RX0 yX0_requireAstronomer yX0_requireAstronomer, Cond.code yX0_requireAstronomer cX0_requireAstronomer 2 none, Cond.classLink RX0 187 "java/lang/IndexOutOfBoundsException", Cond.initialized "java/lang/IndexOutOfBoundsException", Cond.methodLink RX0 148 yX0_mixed, Cond.static yX0_mixed, Cond.code yX0_mixed cX0_mixed 4 (some .long), Cond.constantLong RX0 202 (31), Cond.methodLink RX0 229 yX0_stubbornnessOf, Cond.instanceMethod yX0_stubbornnessOf, Cond.selects RX0 yX0_stubbornnessOf yX0_stubbornnessOf, Cond.code yX0_stubbornnessOf cX0_stubbornnessOf 2 (some .int), Cond.fieldLink RX0 33 "SmudgedStar" "stubbornnessLeft" "[I", Cond.methodLink RX0 232 yX0_unexplainedBy, Cond.instanceMethod yX0_unexplainedBy]
def wsX0_mixedWithAstronomers_r2 : List Cond := [Cond.selects RX0 yX0_unexplainedBy yX0_unexplainedBy, Cond.code yX0_unexplainedBy cX0_unexplainedBy 2 (some .int), Cond.methodLink RX0 105 yX0_missesOf, Cond.instanceMethod yX0_missesOf, Cond.selects RX0 yX0_missesOf yX0_missesOf, Cond.code yX0_missesOf cX0_missesOf 2 (some .int), Cond.fieldLink RX0 24 "SmudgedStar" "missedNights" "[I"]
def wsX0_mixedWithAstronomers : List Cond := .code yX0_mixedWithAstronomers cX0_mixedWithAstronomers 6 (some .long) :: ((wsX0_mixedWithAstronomers_r1 ++ wsX0_mixedWithAstronomers_r2) ++ wsX00 ++ (vx_atS RX0 191 "java/lang/IndexOutOfBoundsException" ["java/lang/RuntimeException", "java/lang/Exception"]).filter goodWord)
def wsX0_digest_r1 : List Cond := [Cond.constantLong RX0 143 (1951), Cond.methodLink RX0 145 yX0_things, Cond.instanceMethod yX0_things, Cond.selects RX0 yX0_things yX0_things, Cond.initialized RX0, Cond.code yX0_things cX0_things 1 (some .int), Cond.fieldLink RX0 9 "SmudgedStar" "thingCount" "I", Cond.methodLink RX0 148 yX0_mixed, Cond.static yX0_mixed, Cond.code yX0_mixed cX0_mixed 4 (some .long), Cond.constantLong RX0 202 (31), Cond.methodLink RX0 152 yX0_nights, Cond.instanceMethod yX0_nights, Cond.selects RX0 yX0_nights yX0_nights, Cond.code yX0_nights cX0_nights 1 (some .int), Cond.fieldLink RX0 13 "SmudgedStar" "nightCount" "I", Cond.methodLink RX0 155 yX0_smudges, Cond.instanceMethod yX0_smudges, Cond.selects RX0 yX0_smudges yX0_smudges, Cond.code yX0_smudges cX0_smudges 3 (some .int), Cond.fieldLink RX0 20 "SmudgedStar" "smudgeSeen" "[Z", Cond.methodLink RX0 119 yX0_agree, Cond.instanceMethod yX0_agree, Cond.selects RX0 yX0_agree yX0_agree]
def wsX0_digest_r2 : List Cond := [Cond.code yX0_agree cX0_agree 1 (some .boolean), Cond.methodLink RX0 102 yX0_nightsToDoubt, Cond.instanceMethod yX0_nightsToDoubt, Cond.selects RX0 yX0_nightsToDoubt yX0_nightsToDoubt, Cond.code yX0_nightsToDoubt cX0_nightsToDoubt 3 (some .int), Cond.methodLink RX0 123 Lib.Math.min.name, Cond.static Lib.Math.min.name, Cond.initialized "java/lang/Math", Cond.code Lib.Math.min.name Lib.Math.min.code 2 (some .int), Cond.methodLink RX0 111 yX0_allThings, Cond.instanceMethod yX0_allThings, Cond.selects RX0 yX0_allThings yX0_allThings, Cond.code yX0_allThings cX0_allThings 1 (some .int), Cond.methodLink RX0 105 yX0_missesOf, Cond.instanceMethod yX0_missesOf, Cond.selects RX0 yX0_missesOf yX0_missesOf, Cond.code yX0_missesOf cX0_missesOf 2 (some .int), Cond.fieldLink RX0 24 "SmudgedStar" "missedNights" "[I", Cond.methodLink RX0 158 yX0_oneIf, Cond.static yX0_oneIf, Cond.code yX0_oneIf cX0_oneIf 1 (some .long), Cond.methodLink RX0 162 yX0_astronomers, Cond.instanceMethod yX0_astronomers, Cond.selects RX0 yX0_astronomers yX0_astronomers]
def wsX0_digest_r3 : List Cond := [Cond.code yX0_astronomers cX0_astronomers 1 (some .int), Cond.fieldLink RX0 27 "SmudgedStar" "astronomerCount" "I", Cond.methodLink RX0 165 yX0_vote, Cond.instanceMethod yX0_vote, Cond.selects RX0 yX0_vote yX0_vote, Cond.code yX0_vote cX0_vote 3 (some .int), Cond.methodLink RX0 108 yX0_votesFor, Cond.instanceMethod yX0_votesFor, Cond.selects RX0 yX0_votesFor yX0_votesFor, Cond.code yX0_votesFor cX0_votesFor 4 (some .int), Cond.fieldLink RX0 30 "SmudgedStar" "blamedThings" "[I", Cond.methodLink RX0 84 yX0_requireThing, Cond.instanceMethod yX0_requireThing, Cond.selects RX0 yX0_requireThing yX0_requireThing, Cond.code yX0_requireThing cX0_requireThing 2 none, Cond.classLink RX0 187 "java/lang/IndexOutOfBoundsException", Cond.initialized "java/lang/IndexOutOfBoundsException", Cond.methodLink RX0 87 yX0_holds, Cond.static yX0_holds, Cond.code yX0_holds cX0_holds 2 (some .boolean), Cond.methodLink RX0 95 yX0_setOf, Cond.static yX0_setOf, Cond.code yX0_setOf cX0_setOf 1 (some .int), Cond.methodLink RX0 168 yX0_changesOfMind]
def wsX0_digest_r4 : List Cond := [Cond.instanceMethod yX0_changesOfMind, Cond.selects RX0 yX0_changesOfMind yX0_changesOfMind, Cond.code yX0_changesOfMind cX0_changesOfMind 1 (some .int), Cond.fieldLink RX0 39 "SmudgedStar" "mindsChanged" "I", Cond.methodLink RX0 129 yX0_explanations, Cond.instanceMethod yX0_explanations, Cond.selects RX0 yX0_explanations yX0_explanations, Cond.code yX0_explanations cX0_explanations 3 (some .int), Cond.methodLink RX0 171 yX0_simplest, Cond.instanceMethod yX0_simplest, Cond.selects RX0 yX0_simplest yX0_simplest, Cond.code yX0_simplest cX0_simplest 4 (some .int), Cond.methodLink RX0 114 yJ6_bitCount_0f7a4, Cond.static yJ6_bitCount_0f7a4, Cond.initialized RJ6, Cond.code yJ6_bitCount_0f7a4 cJ6_bitCount_0f7a4 1 (some .int), Cond.constant RJ6 265 (1431655765), Cond.constant RJ6 266 (858993459), Cond.constant RJ6 267 (252645135), Cond.methodLink RX0 174 yX0_surelyToBlame, Cond.instanceMethod yX0_surelyToBlame, Cond.selects RX0 yX0_surelyToBlame yX0_surelyToBlame, Cond.code yX0_surelyToBlame cX0_surelyToBlame 3 (some .int), Cond.methodLink RX0 177 yX0_mixedWithThings]
def wsX0_digest_r5 : List Cond := [Cond.instanceMethod yX0_mixedWithThings, Cond.selects RX0 yX0_mixedWithThings yX0_mixedWithThings, Cond.code yX0_mixedWithThings cX0_mixedWithThings 6 (some .long), Cond.methodLink RX0 204 yX0_nightsWith, Cond.instanceMethod yX0_nightsWith, Cond.selects RX0 yX0_nightsWith yX0_nightsWith, Cond.code yX0_nightsWith cX0_nightsWith 4 (some .int), Cond.fieldLink RX0 16 "SmudgedStar" "usedThings" "[I", Cond.methodLink RX0 207 yX0_smudgesWith, Cond.instanceMethod yX0_smudgesWith, Cond.selects RX0 yX0_smudgesWith yX0_smudgesWith, Cond.code yX0_smudgesWith cX0_smudgesWith 4 (some .int), Cond.methodLink RX0 210 yX0_isCleared, Cond.instanceMethod yX0_isCleared, Cond.selects RX0 yX0_isCleared yX0_isCleared, Cond.code yX0_isCleared cX0_isCleared 2 (some .boolean), Cond.methodLink RX0 91 yX0_clearedThings, Cond.instanceMethod yX0_clearedThings, Cond.selects RX0 yX0_clearedThings yX0_clearedThings, Cond.code yX0_clearedThings cX0_clearedThings 3 (some .int), Cond.methodLink RX0 214 yX0_isProved, Cond.instanceMethod yX0_isProved, Cond.selects RX0 yX0_isProved yX0_isProved, Cond.code yX0_isProved cX0_isProved 5 (some .boolean)]
def wsX0_digest_r6 : List Cond := [Cond.methodLink RX0 217 yX0_setsWith, Cond.instanceMethod yX0_setsWith, Cond.selects RX0 yX0_setsWith yX0_setsWith, Cond.code yX0_setsWith cX0_setsWith 2 (some .int), Cond.methodLink RX0 99 yX0_explanationsMeeting, Cond.instanceMethod yX0_explanationsMeeting, Cond.selects RX0 yX0_explanationsMeeting yX0_explanationsMeeting, Cond.code yX0_explanationsMeeting cX0_explanationsMeeting 4 (some .int), Cond.methodLink RX0 181 yX0_mixedWithNights, Cond.instanceMethod yX0_mixedWithNights, Cond.selects RX0 yX0_mixedWithNights yX0_mixedWithNights, Cond.code yX0_mixedWithNights cX0_mixedWithNights 6 (some .long), Cond.methodLink RX0 220 yX0_usedIn, Cond.instanceMethod yX0_usedIn, Cond.selects RX0 yX0_usedIn yX0_usedIn, Cond.code yX0_usedIn cX0_usedIn 2 (some .int), Cond.methodLink RX0 81 yX0_requireNight, Cond.instanceMethod yX0_requireNight, Cond.selects RX0 yX0_requireNight yX0_requireNight, Cond.code yX0_requireNight cX0_requireNight 2 none, Cond.methodLink RX0 223 yX0_isSmudged, Cond.instanceMethod yX0_isSmudged, Cond.selects RX0 yX0_isSmudged yX0_isSmudged, Cond.code yX0_isSmudged cX0_isSmudged 2 (some .boolean)]
def wsX0_digest_r7 : List Cond := [Cond.methodLink RX0 184 yX0_mixedWithAstronomers, Cond.instanceMethod yX0_mixedWithAstronomers, Cond.selects RX0 yX0_mixedWithAstronomers yX0_mixedWithAstronomers, Cond.code yX0_mixedWithAstronomers cX0_mixedWithAstronomers 6 (some .long), Cond.methodLink RX0 226 yX0_blamedBy, Cond.instanceMethod yX0_blamedBy, Cond.selects RX0 yX0_blamedBy yX0_blamedBy, Cond.code yX0_blamedBy cX0_blamedBy 2 (some .int), Cond.methodLink RX0 60 yX0_requireAstronomer, Cond.instanceMethod yX0_requireAstronomer, Cond.selects RX0 yX0_requireAstronomer yX0_requireAstronomer, Cond.code yX0_requireAstronomer cX0_requireAstronomer 2 none, Cond.methodLink RX0 229 yX0_stubbornnessOf, Cond.instanceMethod yX0_stubbornnessOf, Cond.selects RX0 yX0_stubbornnessOf yX0_stubbornnessOf, Cond.code yX0_stubbornnessOf cX0_stubbornnessOf 2 (some .int), Cond.fieldLink RX0 33 "SmudgedStar" "stubbornnessLeft" "[I", Cond.methodLink RX0 232 yX0_unexplainedBy, Cond.instanceMethod yX0_unexplainedBy, Cond.selects RX0 yX0_unexplainedBy yX0_unexplainedBy, Cond.code yX0_unexplainedBy cX0_unexplainedBy 2 (some .int)]
def wsX0_digest : List Cond := .code yX0_digest cX0_digest 3 (some .long) :: ((wsX0_digest_r1 ++ (wsX0_digest_r2 ++ (wsX0_digest_r3 ++ (wsX0_digest_r4 ++ (wsX0_digest_r5 ++ (wsX0_digest_r6 ++ wsX0_digest_r7)))))) ++ wsX00 ++ (vx_atS RX0 191 "java/lang/IndexOutOfBoundsException" ["java/lang/RuntimeException", "java/lang/Exception"]).filter goodWord)
def wsX1_init : List Cond := .code yX1_init cX1_init 1 none :: ([.methodLink RX1 1 objectInit, .instanceMethod objectInit, .code objectInit ⟨#[0xb1]⟩ 1 none, .arrayClass .int, .fieldLink RX1 9 "SmudgedStarModel" "used" "[I", .arrayClass .boolean, .fieldLink RX1 13 "SmudgedStarModel" "smudged" "[Z", .fieldLink RX1 17 "SmudgedStarModel" "first" "[I", .fieldLink RX1 20 "SmudgedStarModel" "left" "[I", .fieldLink RX1 23 "SmudgedStarModel" "blames" "[I"] ++ wsX10)
def wsX1_thrown : List Cond := .code yX1_thrown cX1_thrown 1 (some .int) :: ([.fieldLink RX1 26 "SmudgedStarModel" "thrown" "I"] ++ wsX10)
def wsX1_no : List Cond := .code yX1_no cX1_no 2 (some .int) :: ([.fieldLink RX1 26 "SmudgedStarModel" "thrown" "I"] ++ wsX10)
def wsX1_isNot : List Cond := .code yX1_isNot cX1_isNot 2 (some .boolean) :: ([.fieldLink RX1 26 "SmudgedStarModel" "thrown" "I"] ++ wsX10)
def wsX1_ok : List Cond := .code yX1_ok cX1_ok 2 (some .int) :: ([.fieldLink RX1 26 "SmudgedStarModel" "thrown" "I"] ++ wsX10)
def wsX1_isIn : List Cond := .code yX1_isIn cX1_isIn 3 (some .boolean) :: ([])
def wsX1_has : List Cond := .code yX1_has cX1_has 2 (some .boolean) :: ([])
def wsX1_all : List Cond := .code yX1_all cX1_all 1 (some .int) :: ([.fieldLink RX1 30 "SmudgedStarModel" "things" "I"] ++ wsX10)
def wsX1_isThing : List Cond := .code yX1_isThing cX1_isThing 2 (some .boolean) :: ([.fieldLink RX1 30 "SmudgedStarModel" "things" "I", .methodLink RX1 33 yX1_isIn, .static yX1_isIn, .initialized RX1, .code yX1_isIn cX1_isIn 3 (some .boolean)] ++ wsX10)
def wsX1_isNight : List Cond := .code yX1_isNight cX1_isNight 2 (some .boolean) :: ([.fieldLink RX1 37 "SmudgedStarModel" "nights" "I", .methodLink RX1 33 yX1_isIn, .static yX1_isIn, .initialized RX1, .code yX1_isIn cX1_isIn 3 (some .boolean)] ++ wsX10)
def wsX1_isAstronomer : List Cond := .code yX1_isAstronomer cX1_isAstronomer 2 (some .boolean) :: ([.fieldLink RX1 40 "SmudgedStarModel" "astronomers" "I", .methodLink RX1 33 yX1_isIn, .static yX1_isIn, .initialized RX1, .code yX1_isIn cX1_isIn 3 (some .boolean)] ++ wsX10)
def wsX1_explains : List Cond := .code yX1_explains cX1_explains 3 (some .boolean) :: ([])
def wsX1_unexplained : List Cond := .code yX1_unexplained cX1_unexplained 4 (some .int) :: ([.fieldLink RX1 37 "SmudgedStarModel" "nights" "I", .fieldLink RX1 9 "SmudgedStarModel" "used" "[I", .fieldLink RX1 13 "SmudgedStarModel" "smudged" "[Z", .methodLink RX1 43 yX1_explains, .static yX1_explains, .initialized RX1, .code yX1_explains cX1_explains 3 (some .boolean)] ++ wsX10)
def wsX1_explaining : List Cond := .code yX1_explaining cX1_explaining 3 (some .int) :: ([.methodLink RX1 47 yX1_all, .instanceMethod yX1_all, .selects RX1 yX1_all yX1_all, .initialized RX1, .code yX1_all cX1_all 1 (some .int), .fieldLink RX1 30 "SmudgedStarModel" "things" "I", .methodLink RX1 51 yX1_unexplained, .instanceMethod yX1_unexplained, .selects RX1 yX1_unexplained yX1_unexplained, .code yX1_unexplained cX1_unexplained 4 (some .int), .fieldLink RX1 37 "SmudgedStarModel" "nights" "I", .fieldLink RX1 9 "SmudgedStarModel" "used" "[I", .fieldLink RX1 13 "SmudgedStarModel" "smudged" "[Z", .methodLink RX1 43 yX1_explains, .static yX1_explains, .code yX1_explains cX1_explains 3 (some .boolean)] ++ wsX10)
def wsX1_fewest : List Cond := .code yX1_fewest cX1_fewest 3 (some .int) :: ([.methodLink RX1 47 yX1_all, .instanceMethod yX1_all, .selects RX1 yX1_all yX1_all, .initialized RX1, .code yX1_all cX1_all 1 (some .int), .fieldLink RX1 30 "SmudgedStarModel" "things" "I", .methodLink RX1 51 yX1_unexplained, .instanceMethod yX1_unexplained, .selects RX1 yX1_unexplained yX1_unexplained, .code yX1_unexplained cX1_unexplained 4 (some .int), .fieldLink RX1 37 "SmudgedStarModel" "nights" "I", .fieldLink RX1 9 "SmudgedStarModel" "used" "[I", .fieldLink RX1 13 "SmudgedStarModel" "smudged" "[Z", .methodLink RX1 43 yX1_explains, .static yX1_explains, .code yX1_explains cX1_explains 3 (some .boolean), .methodLink RX1 55 yJ6_bitCount_0f7a4, .static yJ6_bitCount_0f7a4, .initialized RJ6, .code yJ6_bitCount_0f7a4 cJ6_bitCount_0f7a4 1 (some .int), .constant RJ6 265 (1431655765), .constant RJ6 266 (858993459), .constant RJ6 267 (252645135)] ++ wsX10)
def wsX1_inAll : List Cond := .code yX1_inAll cX1_inAll 3 (some .int) :: ([.methodLink RX1 47 yX1_all, .instanceMethod yX1_all, .selects RX1 yX1_all yX1_all, .initialized RX1, .code yX1_all cX1_all 1 (some .int), .fieldLink RX1 30 "SmudgedStarModel" "things" "I", .methodLink RX1 51 yX1_unexplained, .instanceMethod yX1_unexplained, .selects RX1 yX1_unexplained yX1_unexplained, .code yX1_unexplained cX1_unexplained 4 (some .int), .fieldLink RX1 37 "SmudgedStarModel" "nights" "I", .fieldLink RX1 9 "SmudgedStarModel" "used" "[I", .fieldLink RX1 13 "SmudgedStarModel" "smudged" "[Z", .methodLink RX1 43 yX1_explains, .static yX1_explains, .code yX1_explains cX1_explains 3 (some .boolean)] ++ wsX10)
def wsX1_withThing : List Cond := .code yX1_withThing cX1_withThing 4 (some .int) :: ([.methodLink RX1 47 yX1_all, .instanceMethod yX1_all, .selects RX1 yX1_all yX1_all, .initialized RX1, .code yX1_all cX1_all 1 (some .int), .fieldLink RX1 30 "SmudgedStarModel" "things" "I", .methodLink RX1 60 yX1_has, .static yX1_has, .code yX1_has cX1_has 2 (some .boolean), .methodLink RX1 51 yX1_unexplained, .instanceMethod yX1_unexplained, .selects RX1 yX1_unexplained yX1_unexplained, .code yX1_unexplained cX1_unexplained 4 (some .int), .fieldLink RX1 37 "SmudgedStarModel" "nights" "I", .fieldLink RX1 9 "SmudgedStarModel" "used" "[I", .fieldLink RX1 13 "SmudgedStarModel" "smudged" "[Z", .methodLink RX1 43 yX1_explains, .static yX1_explains, .code yX1_explains cX1_explains 3 (some .boolean)] ++ wsX10)
def wsX1_meeting : List Cond := .code yX1_meeting cX1_meeting 4 (some .int) :: ([.methodLink RX1 47 yX1_all, .instanceMethod yX1_all, .selects RX1 yX1_all yX1_all, .initialized RX1, .code yX1_all cX1_all 1 (some .int), .fieldLink RX1 30 "SmudgedStarModel" "things" "I", .methodLink RX1 51 yX1_unexplained, .instanceMethod yX1_unexplained, .selects RX1 yX1_unexplained yX1_unexplained, .code yX1_unexplained cX1_unexplained 4 (some .int), .fieldLink RX1 37 "SmudgedStarModel" "nights" "I", .fieldLink RX1 9 "SmudgedStarModel" "used" "[I", .fieldLink RX1 13 "SmudgedStarModel" "smudged" "[Z", .methodLink RX1 43 yX1_explains, .static yX1_explains, .code yX1_explains cX1_explains 3 (some .boolean)] ++ wsX10)
def wsX1_addThing : List Cond := .code yX1_addThing cX1_addThing 1 (some .int) :: ([.fieldLink RX1 26 "SmudgedStarModel" "thrown" "I", .fieldLink RX1 30 "SmudgedStarModel" "things" "I", .methodLink RX1 64 yX1_no, .instanceMethod yX1_no, .selects RX1 yX1_no yX1_no, .initialized RX1, .code yX1_no cX1_no 2 (some .int)] ++ wsX10)
def wsX1_addAstronomer : List Cond := .code yX1_addAstronomer cX1_addAstronomer 2 (some .int) :: ([.fieldLink RX1 26 "SmudgedStarModel" "thrown" "I", .fieldLink RX1 40 "SmudgedStarModel" "astronomers" "I", .fieldLink RX1 17 "SmudgedStarModel" "first" "[I", .fieldLink RX1 20 "SmudgedStarModel" "left" "[I", .methodLink RX1 33 yX1_isIn, .static yX1_isIn, .initialized RX1, .code yX1_isIn cX1_isIn 3 (some .boolean), .methodLink RX1 64 yX1_no, .instanceMethod yX1_no, .selects RX1 yX1_no yX1_no, .code yX1_no cX1_no 2 (some .int)] ++ wsX10)
def wsX1_think : List Cond := .code yX1_think cX1_think 3 none :: ([.fieldLink RX1 23 "SmudgedStarModel" "blames" "[I", .fieldLink RX1 20 "SmudgedStarModel" "left" "[I", .fieldLink RX1 17 "SmudgedStarModel" "first" "[I"] ++ wsX10)
def wsX1_blame_r1 : List Cond := [Cond.fieldLink RX1 26 "SmudgedStarModel" "thrown" "I", Cond.fieldLink RX1 23 "SmudgedStarModel" "blames" "[I", Cond.methodLink RX1 67 yX1_isAstronomer, Cond.instanceMethod yX1_isAstronomer, Cond.selects RX1 yX1_isAstronomer yX1_isAstronomer, Cond.initialized RX1, Cond.code yX1_isAstronomer cX1_isAstronomer 2 (some .boolean), Cond.fieldLink RX1 40 "SmudgedStarModel" "astronomers" "I", Cond.methodLink RX1 33 yX1_isIn, Cond.static yX1_isIn, Cond.code yX1_isIn cX1_isIn 3 (some .boolean), Cond.methodLink RX1 64 yX1_no, Cond.instanceMethod yX1_no, Cond.selects RX1 yX1_no yX1_no, Cond.code yX1_no cX1_no 2 (some .int), Cond.methodLink RX1 47 yX1_all, Cond.instanceMethod yX1_all, Cond.selects RX1 yX1_all yX1_all, Cond.code yX1_all cX1_all 1 (some .int), Cond.fieldLink RX1 30 "SmudgedStarModel" "things" "I", Cond.methodLink RX1 71 yX1_think, Cond.instanceMethod yX1_think, Cond.selects RX1 yX1_think yX1_think, Cond.code yX1_think cX1_think 3 none]
def wsX1_blame_r2 : List Cond := [Cond.fieldLink RX1 20 "SmudgedStarModel" "left" "[I", Cond.fieldLink RX1 17 "SmudgedStarModel" "first" "[I"]
def wsX1_blame : List Cond := .code yX1_blame cX1_blame 4 (some .int) :: ((wsX1_blame_r1 ++ wsX1_blame_r2) ++ wsX10)
def wsX1_put : List Cond := .code yX1_put cX1_put 3 none :: ([.fieldLink RX1 9 "SmudgedStarModel" "used" "[I", .fieldLink RX1 37 "SmudgedStarModel" "nights" "I", .fieldLink RX1 13 "SmudgedStarModel" "smudged" "[Z"] ++ wsX10)
def wsX1_writeDown_r1 : List Cond := [Cond.fieldLink RX1 26 "SmudgedStarModel" "thrown" "I", Cond.fieldLink RX1 37 "SmudgedStarModel" "nights" "I", Cond.fieldLink RX1 40 "SmudgedStarModel" "astronomers" "I", Cond.fieldLink RX1 23 "SmudgedStarModel" "blames" "[I", Cond.fieldLink RX1 20 "SmudgedStarModel" "left" "[I", Cond.fieldLink RX1 82 "SmudgedStarModel" "changes" "I", Cond.methodLink RX1 47 yX1_all, Cond.instanceMethod yX1_all, Cond.selects RX1 yX1_all yX1_all, Cond.initialized RX1, Cond.code yX1_all cX1_all 1 (some .int), Cond.fieldLink RX1 30 "SmudgedStarModel" "things" "I", Cond.methodLink RX1 33 yX1_isIn, Cond.static yX1_isIn, Cond.code yX1_isIn cX1_isIn 3 (some .boolean), Cond.methodLink RX1 64 yX1_no, Cond.instanceMethod yX1_no, Cond.selects RX1 yX1_no yX1_no, Cond.code yX1_no cX1_no 2 (some .int), Cond.methodLink RX1 75 yX1_put, Cond.instanceMethod yX1_put, Cond.selects RX1 yX1_put yX1_put, Cond.code yX1_put cX1_put 3 none, Cond.fieldLink RX1 9 "SmudgedStarModel" "used" "[I"]
def wsX1_writeDown_r2 : List Cond := [Cond.fieldLink RX1 13 "SmudgedStarModel" "smudged" "[Z", Cond.methodLink RX1 79 yX1_fewest, Cond.instanceMethod yX1_fewest, Cond.selects RX1 yX1_fewest yX1_fewest, Cond.code yX1_fewest cX1_fewest 3 (some .int), Cond.methodLink RX1 51 yX1_unexplained, Cond.instanceMethod yX1_unexplained, Cond.selects RX1 yX1_unexplained yX1_unexplained, Cond.code yX1_unexplained cX1_unexplained 4 (some .int), Cond.methodLink RX1 43 yX1_explains, Cond.static yX1_explains, Cond.code yX1_explains cX1_explains 3 (some .boolean), Cond.methodLink RX1 55 yJ6_bitCount_0f7a4, Cond.static yJ6_bitCount_0f7a4, Cond.initialized RJ6, Cond.code yJ6_bitCount_0f7a4 cJ6_bitCount_0f7a4 1 (some .int), Cond.constant RJ6 265 (1431655765), Cond.constant RJ6 266 (858993459), Cond.constant RJ6 267 (252645135), Cond.methodLink RX1 71 yX1_think, Cond.instanceMethod yX1_think, Cond.selects RX1 yX1_think yX1_think, Cond.code yX1_think cX1_think 3 none, Cond.fieldLink RX1 17 "SmudgedStarModel" "first" "[I"]
def wsX1_writeDown : List Cond := .code yX1_writeDown cX1_writeDown 6 (some .int) :: ((wsX1_writeDown_r1 ++ wsX1_writeDown_r2) ++ wsX10)
def wsX1_strike : List Cond := .code yX1_strike cX1_strike 3 (some .int) :: ([.fieldLink RX1 26 "SmudgedStarModel" "thrown" "I", .fieldLink RX1 37 "SmudgedStarModel" "nights" "I", .fieldLink RX1 9 "SmudgedStarModel" "used" "[I", .fieldLink RX1 13 "SmudgedStarModel" "smudged" "[Z", .methodLink RX1 85 yX1_isNight, .instanceMethod yX1_isNight, .selects RX1 yX1_isNight yX1_isNight, .initialized RX1, .code yX1_isNight cX1_isNight 2 (some .boolean), .methodLink RX1 33 yX1_isIn, .static yX1_isIn, .code yX1_isIn cX1_isIn 3 (some .boolean), .methodLink RX1 64 yX1_no, .instanceMethod yX1_no, .selects RX1 yX1_no yX1_no, .code yX1_no cX1_no 2 (some .int)] ++ wsX10)
def wsX1_things : List Cond := .code yX1_things cX1_things 1 (some .int) :: ([.fieldLink RX1 30 "SmudgedStarModel" "things" "I", .methodLink RX1 88 yX1_ok, .instanceMethod yX1_ok, .selects RX1 yX1_ok yX1_ok, .initialized RX1, .code yX1_ok cX1_ok 2 (some .int), .fieldLink RX1 26 "SmudgedStarModel" "thrown" "I"] ++ wsX10)
def wsX1_nightsOf : List Cond := .code yX1_nightsOf cX1_nightsOf 5 (some .int) :: ([.fieldLink RX1 37 "SmudgedStarModel" "nights" "I", .fieldLink RX1 9 "SmudgedStarModel" "used" "[I", .fieldLink RX1 13 "SmudgedStarModel" "smudged" "[Z", .methodLink RX1 60 yX1_has, .static yX1_has, .initialized RX1, .code yX1_has cX1_has 2 (some .boolean)] ++ wsX10)
def wsX1_nightsWith : List Cond := .code yX1_nightsWith cX1_nightsWith 2 (some .int) :: ([.fieldLink RX1 26 "SmudgedStarModel" "thrown" "I", .methodLink RX1 91 yX1_isThing, .instanceMethod yX1_isThing, .selects RX1 yX1_isThing yX1_isThing, .initialized RX1, .code yX1_isThing cX1_isThing 2 (some .boolean), .fieldLink RX1 30 "SmudgedStarModel" "things" "I", .methodLink RX1 33 yX1_isIn, .static yX1_isIn, .code yX1_isIn cX1_isIn 3 (some .boolean), .methodLink RX1 94 yX1_nightsOf, .instanceMethod yX1_nightsOf, .selects RX1 yX1_nightsOf yX1_nightsOf, .code yX1_nightsOf cX1_nightsOf 5 (some .int), .fieldLink RX1 37 "SmudgedStarModel" "nights" "I", .fieldLink RX1 9 "SmudgedStarModel" "used" "[I", .fieldLink RX1 13 "SmudgedStarModel" "smudged" "[Z", .methodLink RX1 60 yX1_has, .static yX1_has, .code yX1_has cX1_has 2 (some .boolean), .methodLink RX1 64 yX1_no, .instanceMethod yX1_no, .selects RX1 yX1_no yX1_no, .code yX1_no cX1_no 2 (some .int)] ++ wsX10)
def wsX1_smudgesWith : List Cond := .code yX1_smudgesWith cX1_smudgesWith 2 (some .int) :: ([.fieldLink RX1 26 "SmudgedStarModel" "thrown" "I", .methodLink RX1 91 yX1_isThing, .instanceMethod yX1_isThing, .selects RX1 yX1_isThing yX1_isThing, .initialized RX1, .code yX1_isThing cX1_isThing 2 (some .boolean), .fieldLink RX1 30 "SmudgedStarModel" "things" "I", .methodLink RX1 33 yX1_isIn, .static yX1_isIn, .code yX1_isIn cX1_isIn 3 (some .boolean), .methodLink RX1 94 yX1_nightsOf, .instanceMethod yX1_nightsOf, .selects RX1 yX1_nightsOf yX1_nightsOf, .code yX1_nightsOf cX1_nightsOf 5 (some .int), .fieldLink RX1 37 "SmudgedStarModel" "nights" "I", .fieldLink RX1 9 "SmudgedStarModel" "used" "[I", .fieldLink RX1 13 "SmudgedStarModel" "smudged" "[Z", .methodLink RX1 60 yX1_has, .static yX1_has, .code yX1_has cX1_has 2 (some .boolean), .methodLink RX1 64 yX1_no, .instanceMethod yX1_no, .selects RX1 yX1_no yX1_no, .code yX1_no cX1_no 2 (some .int)] ++ wsX10)
def wsX1_cleared : List Cond := .code yX1_cleared cX1_cleared 3 (some .int) :: ([.fieldLink RX1 37 "SmudgedStarModel" "nights" "I", .fieldLink RX1 13 "SmudgedStarModel" "smudged" "[Z", .fieldLink RX1 9 "SmudgedStarModel" "used" "[I"] ++ wsX10)
def wsX1_proved : List Cond := .code yX1_proved cX1_proved 4 (some .boolean) :: ([.fieldLink RX1 37 "SmudgedStarModel" "nights" "I", .fieldLink RX1 13 "SmudgedStarModel" "smudged" "[Z", .fieldLink RX1 9 "SmudgedStarModel" "used" "[I", .methodLink RX1 98 yX1_cleared, .instanceMethod yX1_cleared, .selects RX1 yX1_cleared yX1_cleared, .initialized RX1, .code yX1_cleared cX1_cleared 3 (some .int), .methodLink RX1 60 yX1_has, .static yX1_has, .code yX1_has cX1_has 2 (some .boolean)] ++ wsX10)
def wsX1_isCleared : List Cond := .code yX1_isCleared cX1_isCleared 2 (some .boolean) :: ([.fieldLink RX1 26 "SmudgedStarModel" "thrown" "I", .methodLink RX1 91 yX1_isThing, .instanceMethod yX1_isThing, .selects RX1 yX1_isThing yX1_isThing, .initialized RX1, .code yX1_isThing cX1_isThing 2 (some .boolean), .fieldLink RX1 30 "SmudgedStarModel" "things" "I", .methodLink RX1 33 yX1_isIn, .static yX1_isIn, .code yX1_isIn cX1_isIn 3 (some .boolean), .methodLink RX1 98 yX1_cleared, .instanceMethod yX1_cleared, .selects RX1 yX1_cleared yX1_cleared, .code yX1_cleared cX1_cleared 3 (some .int), .fieldLink RX1 37 "SmudgedStarModel" "nights" "I", .fieldLink RX1 13 "SmudgedStarModel" "smudged" "[Z", .fieldLink RX1 9 "SmudgedStarModel" "used" "[I", .methodLink RX1 60 yX1_has, .static yX1_has, .code yX1_has cX1_has 2 (some .boolean), .methodLink RX1 101 yX1_isNot, .instanceMethod yX1_isNot, .selects RX1 yX1_isNot yX1_isNot, .code yX1_isNot cX1_isNot 2 (some .boolean)] ++ wsX10)
def wsX1_isProved_r1 : List Cond := [Cond.fieldLink RX1 26 "SmudgedStarModel" "thrown" "I", Cond.methodLink RX1 91 yX1_isThing, Cond.instanceMethod yX1_isThing, Cond.selects RX1 yX1_isThing yX1_isThing, Cond.initialized RX1, Cond.code yX1_isThing cX1_isThing 2 (some .boolean), Cond.fieldLink RX1 30 "SmudgedStarModel" "things" "I", Cond.methodLink RX1 33 yX1_isIn, Cond.static yX1_isIn, Cond.code yX1_isIn cX1_isIn 3 (some .boolean), Cond.methodLink RX1 104 yX1_proved, Cond.instanceMethod yX1_proved, Cond.selects RX1 yX1_proved yX1_proved, Cond.code yX1_proved cX1_proved 4 (some .boolean), Cond.fieldLink RX1 37 "SmudgedStarModel" "nights" "I", Cond.fieldLink RX1 13 "SmudgedStarModel" "smudged" "[Z", Cond.fieldLink RX1 9 "SmudgedStarModel" "used" "[I", Cond.methodLink RX1 98 yX1_cleared, Cond.instanceMethod yX1_cleared, Cond.selects RX1 yX1_cleared yX1_cleared, Cond.code yX1_cleared cX1_cleared 3 (some .int), Cond.methodLink RX1 60 yX1_has, Cond.static yX1_has, Cond.code yX1_has cX1_has 2 (some .boolean)]
def wsX1_isProved_r2 : List Cond := [Cond.methodLink RX1 101 yX1_isNot, Cond.instanceMethod yX1_isNot, Cond.selects RX1 yX1_isNot yX1_isNot, Cond.code yX1_isNot cX1_isNot 2 (some .boolean)]
def wsX1_isProved : List Cond := .code yX1_isProved cX1_isProved 2 (some .boolean) :: ((wsX1_isProved_r1 ++ wsX1_isProved_r2) ++ wsX10)
def wsX1_setsWith_r1 : List Cond := [Cond.fieldLink RX1 26 "SmudgedStarModel" "thrown" "I", Cond.methodLink RX1 91 yX1_isThing, Cond.instanceMethod yX1_isThing, Cond.selects RX1 yX1_isThing yX1_isThing, Cond.initialized RX1, Cond.code yX1_isThing cX1_isThing 2 (some .boolean), Cond.fieldLink RX1 30 "SmudgedStarModel" "things" "I", Cond.methodLink RX1 33 yX1_isIn, Cond.static yX1_isIn, Cond.code yX1_isIn cX1_isIn 3 (some .boolean), Cond.methodLink RX1 107 yX1_withThing, Cond.instanceMethod yX1_withThing, Cond.selects RX1 yX1_withThing yX1_withThing, Cond.code yX1_withThing cX1_withThing 4 (some .int), Cond.methodLink RX1 47 yX1_all, Cond.instanceMethod yX1_all, Cond.selects RX1 yX1_all yX1_all, Cond.code yX1_all cX1_all 1 (some .int), Cond.methodLink RX1 60 yX1_has, Cond.static yX1_has, Cond.code yX1_has cX1_has 2 (some .boolean), Cond.methodLink RX1 51 yX1_unexplained, Cond.instanceMethod yX1_unexplained, Cond.selects RX1 yX1_unexplained yX1_unexplained]
def wsX1_setsWith_r2 : List Cond := [Cond.code yX1_unexplained cX1_unexplained 4 (some .int), Cond.fieldLink RX1 37 "SmudgedStarModel" "nights" "I", Cond.fieldLink RX1 9 "SmudgedStarModel" "used" "[I", Cond.fieldLink RX1 13 "SmudgedStarModel" "smudged" "[Z", Cond.methodLink RX1 43 yX1_explains, Cond.static yX1_explains, Cond.code yX1_explains cX1_explains 3 (some .boolean), Cond.methodLink RX1 64 yX1_no, Cond.instanceMethod yX1_no, Cond.selects RX1 yX1_no yX1_no, Cond.code yX1_no cX1_no 2 (some .int)]
def wsX1_setsWith : List Cond := .code yX1_setsWith cX1_setsWith 2 (some .int) :: ((wsX1_setsWith_r1 ++ wsX1_setsWith_r2) ++ wsX10)
def wsX1_nights : List Cond := .code yX1_nights cX1_nights 1 (some .int) :: ([.fieldLink RX1 37 "SmudgedStarModel" "nights" "I", .methodLink RX1 88 yX1_ok, .instanceMethod yX1_ok, .selects RX1 yX1_ok yX1_ok, .initialized RX1, .code yX1_ok cX1_ok 2 (some .int), .fieldLink RX1 26 "SmudgedStarModel" "thrown" "I"] ++ wsX10)
def wsX1_smudgesNow : List Cond := .code yX1_smudgesNow cX1_smudgesNow 3 (some .int) :: ([.fieldLink RX1 37 "SmudgedStarModel" "nights" "I", .fieldLink RX1 13 "SmudgedStarModel" "smudged" "[Z"] ++ wsX10)
def wsX1_smudges : List Cond := .code yX1_smudges cX1_smudges 1 (some .int) :: ([.methodLink RX1 110 yX1_smudgesNow, .instanceMethod yX1_smudgesNow, .selects RX1 yX1_smudgesNow yX1_smudgesNow, .initialized RX1, .code yX1_smudgesNow cX1_smudgesNow 3 (some .int), .fieldLink RX1 37 "SmudgedStarModel" "nights" "I", .fieldLink RX1 13 "SmudgedStarModel" "smudged" "[Z", .methodLink RX1 88 yX1_ok, .instanceMethod yX1_ok, .selects RX1 yX1_ok yX1_ok, .code yX1_ok cX1_ok 2 (some .int), .fieldLink RX1 26 "SmudgedStarModel" "thrown" "I"] ++ wsX10)
def wsX1_usedIn : List Cond := .code yX1_usedIn cX1_usedIn 2 (some .int) :: ([.fieldLink RX1 26 "SmudgedStarModel" "thrown" "I", .fieldLink RX1 9 "SmudgedStarModel" "used" "[I", .methodLink RX1 85 yX1_isNight, .instanceMethod yX1_isNight, .selects RX1 yX1_isNight yX1_isNight, .initialized RX1, .code yX1_isNight cX1_isNight 2 (some .boolean), .fieldLink RX1 37 "SmudgedStarModel" "nights" "I", .methodLink RX1 33 yX1_isIn, .static yX1_isIn, .code yX1_isIn cX1_isIn 3 (some .boolean), .methodLink RX1 64 yX1_no, .instanceMethod yX1_no, .selects RX1 yX1_no yX1_no, .code yX1_no cX1_no 2 (some .int)] ++ wsX10)
def wsX1_isSmudged : List Cond := .code yX1_isSmudged cX1_isSmudged 2 (some .boolean) :: ([.fieldLink RX1 26 "SmudgedStarModel" "thrown" "I", .fieldLink RX1 13 "SmudgedStarModel" "smudged" "[Z", .methodLink RX1 85 yX1_isNight, .instanceMethod yX1_isNight, .selects RX1 yX1_isNight yX1_isNight, .initialized RX1, .code yX1_isNight cX1_isNight 2 (some .boolean), .fieldLink RX1 37 "SmudgedStarModel" "nights" "I", .methodLink RX1 33 yX1_isIn, .static yX1_isIn, .code yX1_isIn cX1_isIn 3 (some .boolean), .methodLink RX1 101 yX1_isNot, .instanceMethod yX1_isNot, .selects RX1 yX1_isNot yX1_isNot, .code yX1_isNot cX1_isNot 2 (some .boolean)] ++ wsX10)
def wsX1_agree_r1 : List Cond := [Cond.fieldLink RX1 26 "SmudgedStarModel" "thrown" "I", Cond.methodLink RX1 79 yX1_fewest, Cond.instanceMethod yX1_fewest, Cond.selects RX1 yX1_fewest yX1_fewest, Cond.initialized RX1, Cond.code yX1_fewest cX1_fewest 3 (some .int), Cond.methodLink RX1 47 yX1_all, Cond.instanceMethod yX1_all, Cond.selects RX1 yX1_all yX1_all, Cond.code yX1_all cX1_all 1 (some .int), Cond.fieldLink RX1 30 "SmudgedStarModel" "things" "I", Cond.methodLink RX1 51 yX1_unexplained, Cond.instanceMethod yX1_unexplained, Cond.selects RX1 yX1_unexplained yX1_unexplained, Cond.code yX1_unexplained cX1_unexplained 4 (some .int), Cond.fieldLink RX1 37 "SmudgedStarModel" "nights" "I", Cond.fieldLink RX1 9 "SmudgedStarModel" "used" "[I", Cond.fieldLink RX1 13 "SmudgedStarModel" "smudged" "[Z", Cond.methodLink RX1 43 yX1_explains, Cond.static yX1_explains, Cond.code yX1_explains cX1_explains 3 (some .boolean), Cond.methodLink RX1 55 yJ6_bitCount_0f7a4, Cond.static yJ6_bitCount_0f7a4, Cond.initialized RJ6]
def wsX1_agree_r2 : List Cond := [Cond.code yJ6_bitCount_0f7a4 cJ6_bitCount_0f7a4 1 (some .int), Cond.constant RJ6 265 (1431655765), Cond.constant RJ6 266 (858993459), Cond.constant RJ6 267 (252645135)]
def wsX1_agree : List Cond := .code yX1_agree cX1_agree 1 (some .boolean) :: ((wsX1_agree_r1 ++ wsX1_agree_r2) ++ wsX10)
def wsX1_astronomers : List Cond := .code yX1_astronomers cX1_astronomers 1 (some .int) :: ([.fieldLink RX1 40 "SmudgedStarModel" "astronomers" "I", .methodLink RX1 88 yX1_ok, .instanceMethod yX1_ok, .selects RX1 yX1_ok yX1_ok, .initialized RX1, .code yX1_ok cX1_ok 2 (some .int), .fieldLink RX1 26 "SmudgedStarModel" "thrown" "I"] ++ wsX10)
def wsX1_blamedBy : List Cond := .code yX1_blamedBy cX1_blamedBy 2 (some .int) :: ([.fieldLink RX1 26 "SmudgedStarModel" "thrown" "I", .fieldLink RX1 23 "SmudgedStarModel" "blames" "[I", .methodLink RX1 67 yX1_isAstronomer, .instanceMethod yX1_isAstronomer, .selects RX1 yX1_isAstronomer yX1_isAstronomer, .initialized RX1, .code yX1_isAstronomer cX1_isAstronomer 2 (some .boolean), .fieldLink RX1 40 "SmudgedStarModel" "astronomers" "I", .methodLink RX1 33 yX1_isIn, .static yX1_isIn, .code yX1_isIn cX1_isIn 3 (some .boolean), .methodLink RX1 64 yX1_no, .instanceMethod yX1_no, .selects RX1 yX1_no yX1_no, .code yX1_no cX1_no 2 (some .int)] ++ wsX10)
def wsX1_stubbornnessOf : List Cond := .code yX1_stubbornnessOf cX1_stubbornnessOf 2 (some .int) :: ([.fieldLink RX1 26 "SmudgedStarModel" "thrown" "I", .fieldLink RX1 20 "SmudgedStarModel" "left" "[I", .methodLink RX1 67 yX1_isAstronomer, .instanceMethod yX1_isAstronomer, .selects RX1 yX1_isAstronomer yX1_isAstronomer, .initialized RX1, .code yX1_isAstronomer cX1_isAstronomer 2 (some .boolean), .fieldLink RX1 40 "SmudgedStarModel" "astronomers" "I", .methodLink RX1 33 yX1_isIn, .static yX1_isIn, .code yX1_isIn cX1_isIn 3 (some .boolean), .methodLink RX1 64 yX1_no, .instanceMethod yX1_no, .selects RX1 yX1_no yX1_no, .code yX1_no cX1_no 2 (some .int)] ++ wsX10)
def wsX1_unexplainedBy_r1 : List Cond := [Cond.fieldLink RX1 26 "SmudgedStarModel" "thrown" "I", Cond.fieldLink RX1 23 "SmudgedStarModel" "blames" "[I", Cond.methodLink RX1 67 yX1_isAstronomer, Cond.instanceMethod yX1_isAstronomer, Cond.selects RX1 yX1_isAstronomer yX1_isAstronomer, Cond.initialized RX1, Cond.code yX1_isAstronomer cX1_isAstronomer 2 (some .boolean), Cond.fieldLink RX1 40 "SmudgedStarModel" "astronomers" "I", Cond.methodLink RX1 33 yX1_isIn, Cond.static yX1_isIn, Cond.code yX1_isIn cX1_isIn 3 (some .boolean), Cond.methodLink RX1 51 yX1_unexplained, Cond.instanceMethod yX1_unexplained, Cond.selects RX1 yX1_unexplained yX1_unexplained, Cond.code yX1_unexplained cX1_unexplained 4 (some .int), Cond.fieldLink RX1 37 "SmudgedStarModel" "nights" "I", Cond.fieldLink RX1 9 "SmudgedStarModel" "used" "[I", Cond.fieldLink RX1 13 "SmudgedStarModel" "smudged" "[Z", Cond.methodLink RX1 43 yX1_explains, Cond.static yX1_explains, Cond.code yX1_explains cX1_explains 3 (some .boolean), Cond.methodLink RX1 64 yX1_no, Cond.instanceMethod yX1_no, Cond.selects RX1 yX1_no yX1_no]
def wsX1_unexplainedBy_r2 : List Cond := [Cond.code yX1_no cX1_no 2 (some .int)]
def wsX1_unexplainedBy : List Cond := .code yX1_unexplainedBy cX1_unexplainedBy 2 (some .int) :: ((wsX1_unexplainedBy_r1 ++ wsX1_unexplainedBy_r2) ++ wsX10)
def wsX1_votes : List Cond := .code yX1_votes cX1_votes 4 (some .int) :: ([.fieldLink RX1 40 "SmudgedStarModel" "astronomers" "I", .fieldLink RX1 23 "SmudgedStarModel" "blames" "[I", .methodLink RX1 60 yX1_has, .static yX1_has, .initialized RX1, .code yX1_has cX1_has 2 (some .boolean)] ++ wsX10)
def wsX1_votesFor : List Cond := .code yX1_votesFor cX1_votesFor 2 (some .int) :: ([.fieldLink RX1 26 "SmudgedStarModel" "thrown" "I", .methodLink RX1 91 yX1_isThing, .instanceMethod yX1_isThing, .selects RX1 yX1_isThing yX1_isThing, .initialized RX1, .code yX1_isThing cX1_isThing 2 (some .boolean), .fieldLink RX1 30 "SmudgedStarModel" "things" "I", .methodLink RX1 33 yX1_isIn, .static yX1_isIn, .code yX1_isIn cX1_isIn 3 (some .boolean), .methodLink RX1 113 yX1_votes, .instanceMethod yX1_votes, .selects RX1 yX1_votes yX1_votes, .code yX1_votes cX1_votes 4 (some .int), .fieldLink RX1 40 "SmudgedStarModel" "astronomers" "I", .fieldLink RX1 23 "SmudgedStarModel" "blames" "[I", .methodLink RX1 60 yX1_has, .static yX1_has, .code yX1_has cX1_has 2 (some .boolean), .methodLink RX1 64 yX1_no, .instanceMethod yX1_no, .selects RX1 yX1_no yX1_no, .code yX1_no cX1_no 2 (some .int)] ++ wsX10)
def wsX1_voted : List Cond := .code yX1_voted cX1_voted 3 (some .int) :: ([.fieldLink RX1 30 "SmudgedStarModel" "things" "I", .fieldLink RX1 40 "SmudgedStarModel" "astronomers" "I", .methodLink RX1 113 yX1_votes, .instanceMethod yX1_votes, .selects RX1 yX1_votes yX1_votes, .initialized RX1, .code yX1_votes cX1_votes 4 (some .int), .fieldLink RX1 23 "SmudgedStarModel" "blames" "[I", .methodLink RX1 60 yX1_has, .static yX1_has, .code yX1_has cX1_has 2 (some .boolean)] ++ wsX10)
def wsX1_vote : List Cond := .code yX1_vote cX1_vote 1 (some .int) :: ([.methodLink RX1 116 yX1_voted, .instanceMethod yX1_voted, .selects RX1 yX1_voted yX1_voted, .initialized RX1, .code yX1_voted cX1_voted 3 (some .int), .fieldLink RX1 30 "SmudgedStarModel" "things" "I", .fieldLink RX1 40 "SmudgedStarModel" "astronomers" "I", .methodLink RX1 113 yX1_votes, .instanceMethod yX1_votes, .selects RX1 yX1_votes yX1_votes, .code yX1_votes cX1_votes 4 (some .int), .fieldLink RX1 23 "SmudgedStarModel" "blames" "[I", .methodLink RX1 60 yX1_has, .static yX1_has, .code yX1_has cX1_has 2 (some .boolean), .methodLink RX1 88 yX1_ok, .instanceMethod yX1_ok, .selects RX1 yX1_ok yX1_ok, .code yX1_ok cX1_ok 2 (some .int), .fieldLink RX1 26 "SmudgedStarModel" "thrown" "I"] ++ wsX10)
def wsX1_changesOfMind : List Cond := .code yX1_changesOfMind cX1_changesOfMind 1 (some .int) :: ([.fieldLink RX1 82 "SmudgedStarModel" "changes" "I", .methodLink RX1 88 yX1_ok, .instanceMethod yX1_ok, .selects RX1 yX1_ok yX1_ok, .initialized RX1, .code yX1_ok cX1_ok 2 (some .int), .fieldLink RX1 26 "SmudgedStarModel" "thrown" "I"] ++ wsX10)
def wsX1_explainsAll : List Cond := .code yX1_explainsAll cX1_explainsAll 2 (some .boolean) :: ([.fieldLink RX1 26 "SmudgedStarModel" "thrown" "I", .methodLink RX1 47 yX1_all, .instanceMethod yX1_all, .selects RX1 yX1_all yX1_all, .initialized RX1, .code yX1_all cX1_all 1 (some .int), .fieldLink RX1 30 "SmudgedStarModel" "things" "I", .methodLink RX1 33 yX1_isIn, .static yX1_isIn, .code yX1_isIn cX1_isIn 3 (some .boolean), .methodLink RX1 51 yX1_unexplained, .instanceMethod yX1_unexplained, .selects RX1 yX1_unexplained yX1_unexplained, .code yX1_unexplained cX1_unexplained 4 (some .int), .fieldLink RX1 37 "SmudgedStarModel" "nights" "I", .fieldLink RX1 9 "SmudgedStarModel" "used" "[I", .fieldLink RX1 13 "SmudgedStarModel" "smudged" "[Z", .methodLink RX1 43 yX1_explains, .static yX1_explains, .code yX1_explains cX1_explains 3 (some .boolean), .methodLink RX1 101 yX1_isNot, .instanceMethod yX1_isNot, .selects RX1 yX1_isNot yX1_isNot, .code yX1_isNot cX1_isNot 2 (some .boolean)] ++ wsX10)
def wsX1_explanations_r1 : List Cond := [Cond.methodLink RX1 119 yX1_explaining, Cond.instanceMethod yX1_explaining, Cond.selects RX1 yX1_explaining yX1_explaining, Cond.initialized RX1, Cond.code yX1_explaining cX1_explaining 3 (some .int), Cond.methodLink RX1 47 yX1_all, Cond.instanceMethod yX1_all, Cond.selects RX1 yX1_all yX1_all, Cond.code yX1_all cX1_all 1 (some .int), Cond.fieldLink RX1 30 "SmudgedStarModel" "things" "I", Cond.methodLink RX1 51 yX1_unexplained, Cond.instanceMethod yX1_unexplained, Cond.selects RX1 yX1_unexplained yX1_unexplained, Cond.code yX1_unexplained cX1_unexplained 4 (some .int), Cond.fieldLink RX1 37 "SmudgedStarModel" "nights" "I", Cond.fieldLink RX1 9 "SmudgedStarModel" "used" "[I", Cond.fieldLink RX1 13 "SmudgedStarModel" "smudged" "[Z", Cond.methodLink RX1 43 yX1_explains, Cond.static yX1_explains, Cond.code yX1_explains cX1_explains 3 (some .boolean), Cond.methodLink RX1 88 yX1_ok, Cond.instanceMethod yX1_ok, Cond.selects RX1 yX1_ok yX1_ok, Cond.code yX1_ok cX1_ok 2 (some .int)]
def wsX1_explanations_r2 : List Cond := [Cond.fieldLink RX1 26 "SmudgedStarModel" "thrown" "I"]
def wsX1_explanations : List Cond := .code yX1_explanations cX1_explanations 1 (some .int) :: ((wsX1_explanations_r1 ++ wsX1_explanations_r2) ++ wsX10)
def wsX1_simplest_r1 : List Cond := [Cond.methodLink RX1 79 yX1_fewest, Cond.instanceMethod yX1_fewest, Cond.selects RX1 yX1_fewest yX1_fewest, Cond.initialized RX1, Cond.code yX1_fewest cX1_fewest 3 (some .int), Cond.methodLink RX1 47 yX1_all, Cond.instanceMethod yX1_all, Cond.selects RX1 yX1_all yX1_all, Cond.code yX1_all cX1_all 1 (some .int), Cond.fieldLink RX1 30 "SmudgedStarModel" "things" "I", Cond.methodLink RX1 51 yX1_unexplained, Cond.instanceMethod yX1_unexplained, Cond.selects RX1 yX1_unexplained yX1_unexplained, Cond.code yX1_unexplained cX1_unexplained 4 (some .int), Cond.fieldLink RX1 37 "SmudgedStarModel" "nights" "I", Cond.fieldLink RX1 9 "SmudgedStarModel" "used" "[I", Cond.fieldLink RX1 13 "SmudgedStarModel" "smudged" "[Z", Cond.methodLink RX1 43 yX1_explains, Cond.static yX1_explains, Cond.code yX1_explains cX1_explains 3 (some .boolean), Cond.methodLink RX1 55 yJ6_bitCount_0f7a4, Cond.static yJ6_bitCount_0f7a4, Cond.initialized RJ6, Cond.code yJ6_bitCount_0f7a4 cJ6_bitCount_0f7a4 1 (some .int)]
def wsX1_simplest_r2 : List Cond := [Cond.constant RJ6 265 (1431655765), Cond.constant RJ6 266 (858993459), Cond.constant RJ6 267 (252645135), Cond.methodLink RX1 88 yX1_ok, Cond.instanceMethod yX1_ok, Cond.selects RX1 yX1_ok yX1_ok, Cond.code yX1_ok cX1_ok 2 (some .int), Cond.fieldLink RX1 26 "SmudgedStarModel" "thrown" "I"]
def wsX1_simplest : List Cond := .code yX1_simplest cX1_simplest 1 (some .int) :: ((wsX1_simplest_r1 ++ wsX1_simplest_r2) ++ wsX10)
def wsX1_surelyToBlame_r1 : List Cond := [Cond.methodLink RX1 122 yX1_inAll, Cond.instanceMethod yX1_inAll, Cond.selects RX1 yX1_inAll yX1_inAll, Cond.initialized RX1, Cond.code yX1_inAll cX1_inAll 3 (some .int), Cond.methodLink RX1 47 yX1_all, Cond.instanceMethod yX1_all, Cond.selects RX1 yX1_all yX1_all, Cond.code yX1_all cX1_all 1 (some .int), Cond.fieldLink RX1 30 "SmudgedStarModel" "things" "I", Cond.methodLink RX1 51 yX1_unexplained, Cond.instanceMethod yX1_unexplained, Cond.selects RX1 yX1_unexplained yX1_unexplained, Cond.code yX1_unexplained cX1_unexplained 4 (some .int), Cond.fieldLink RX1 37 "SmudgedStarModel" "nights" "I", Cond.fieldLink RX1 9 "SmudgedStarModel" "used" "[I", Cond.fieldLink RX1 13 "SmudgedStarModel" "smudged" "[Z", Cond.methodLink RX1 43 yX1_explains, Cond.static yX1_explains, Cond.code yX1_explains cX1_explains 3 (some .boolean), Cond.methodLink RX1 88 yX1_ok, Cond.instanceMethod yX1_ok, Cond.selects RX1 yX1_ok yX1_ok, Cond.code yX1_ok cX1_ok 2 (some .int)]
def wsX1_surelyToBlame_r2 : List Cond := [Cond.fieldLink RX1 26 "SmudgedStarModel" "thrown" "I"]
def wsX1_surelyToBlame : List Cond := .code yX1_surelyToBlame cX1_surelyToBlame 1 (some .int) :: ((wsX1_surelyToBlame_r1 ++ wsX1_surelyToBlame_r2) ++ wsX10)
def wsX1_nightsToDoubt : List Cond := .code yX1_nightsToDoubt cX1_nightsToDoubt 3 (some .int) :: ([.fieldLink RX1 26 "SmudgedStarModel" "thrown" "I", .fieldLink RX1 37 "SmudgedStarModel" "nights" "I", .methodLink RX1 125 Lib.Math.min.name, .static Lib.Math.min.name, .initialized "java/lang/Math", .code Lib.Math.min.name Lib.Math.min.code 2 (some .int), .methodLink RX1 47 yX1_all, .instanceMethod yX1_all, .selects RX1 yX1_all yX1_all, .initialized RX1, .code yX1_all cX1_all 1 (some .int), .fieldLink RX1 30 "SmudgedStarModel" "things" "I", .methodLink RX1 51 yX1_unexplained, .instanceMethod yX1_unexplained, .selects RX1 yX1_unexplained yX1_unexplained, .code yX1_unexplained cX1_unexplained 4 (some .int), .fieldLink RX1 9 "SmudgedStarModel" "used" "[I", .fieldLink RX1 13 "SmudgedStarModel" "smudged" "[Z", .methodLink RX1 43 yX1_explains, .static yX1_explains, .code yX1_explains cX1_explains 3 (some .boolean)] ++ wsX10)
def wsX1_leftIfSmudged_r1 : List Cond := [Cond.fieldLink RX1 26 "SmudgedStarModel" "thrown" "I", Cond.methodLink RX1 47 yX1_all, Cond.instanceMethod yX1_all, Cond.selects RX1 yX1_all yX1_all, Cond.initialized RX1, Cond.code yX1_all cX1_all 1 (some .int), Cond.fieldLink RX1 30 "SmudgedStarModel" "things" "I", Cond.methodLink RX1 33 yX1_isIn, Cond.static yX1_isIn, Cond.code yX1_isIn cX1_isIn 3 (some .boolean), Cond.methodLink RX1 131 yX1_meeting, Cond.instanceMethod yX1_meeting, Cond.selects RX1 yX1_meeting yX1_meeting, Cond.code yX1_meeting cX1_meeting 4 (some .int), Cond.methodLink RX1 51 yX1_unexplained, Cond.instanceMethod yX1_unexplained, Cond.selects RX1 yX1_unexplained yX1_unexplained, Cond.code yX1_unexplained cX1_unexplained 4 (some .int), Cond.fieldLink RX1 37 "SmudgedStarModel" "nights" "I", Cond.fieldLink RX1 9 "SmudgedStarModel" "used" "[I", Cond.fieldLink RX1 13 "SmudgedStarModel" "smudged" "[Z", Cond.methodLink RX1 43 yX1_explains, Cond.static yX1_explains, Cond.code yX1_explains cX1_explains 3 (some .boolean)]
def wsX1_leftIfSmudged_r2 : List Cond := [Cond.methodLink RX1 64 yX1_no, Cond.instanceMethod yX1_no, Cond.selects RX1 yX1_no yX1_no, Cond.code yX1_no cX1_no 2 (some .int)]
def wsX1_leftIfSmudged : List Cond := .code yX1_leftIfSmudged cX1_leftIfSmudged 2 (some .int) :: ((wsX1_leftIfSmudged_r1 ++ wsX1_leftIfSmudged_r2) ++ wsX10)
def wsX1_bestNight_r1 : List Cond := [Cond.fieldLink RX1 26 "SmudgedStarModel" "thrown" "I", Cond.methodLink RX1 134 Lib.Math.max.name, Cond.static Lib.Math.max.name, Cond.initialized "java/lang/Math", Cond.code Lib.Math.max.name Lib.Math.max.code 2 (some .int), Cond.methodLink RX1 119 yX1_explaining, Cond.instanceMethod yX1_explaining, Cond.selects RX1 yX1_explaining yX1_explaining, Cond.initialized RX1, Cond.code yX1_explaining cX1_explaining 3 (some .int), Cond.methodLink RX1 47 yX1_all, Cond.instanceMethod yX1_all, Cond.selects RX1 yX1_all yX1_all, Cond.code yX1_all cX1_all 1 (some .int), Cond.fieldLink RX1 30 "SmudgedStarModel" "things" "I", Cond.methodLink RX1 51 yX1_unexplained, Cond.instanceMethod yX1_unexplained, Cond.selects RX1 yX1_unexplained yX1_unexplained, Cond.code yX1_unexplained cX1_unexplained 4 (some .int), Cond.fieldLink RX1 37 "SmudgedStarModel" "nights" "I", Cond.fieldLink RX1 9 "SmudgedStarModel" "used" "[I", Cond.fieldLink RX1 13 "SmudgedStarModel" "smudged" "[Z", Cond.methodLink RX1 43 yX1_explains, Cond.static yX1_explains]
def wsX1_bestNight_r2 : List Cond := [Cond.code yX1_explains cX1_explains 3 (some .boolean), Cond.methodLink RX1 131 yX1_meeting, Cond.instanceMethod yX1_meeting, Cond.selects RX1 yX1_meeting yX1_meeting, Cond.code yX1_meeting cX1_meeting 4 (some .int)]
def wsX1_bestNight : List Cond := .code yX1_bestNight cX1_bestNight 7 (some .int) :: ((wsX1_bestNight_r1 ++ wsX1_bestNight_r2) ++ wsX10)
def wsX1_wouldChange_r1 : List Cond := [Cond.fieldLink RX1 26 "SmudgedStarModel" "thrown" "I", Cond.fieldLink RX1 37 "SmudgedStarModel" "nights" "I", Cond.fieldLink RX1 40 "SmudgedStarModel" "astronomers" "I", Cond.fieldLink RX1 20 "SmudgedStarModel" "left" "[I", Cond.fieldLink RX1 23 "SmudgedStarModel" "blames" "[I", Cond.methodLink RX1 47 yX1_all, Cond.instanceMethod yX1_all, Cond.selects RX1 yX1_all yX1_all, Cond.initialized RX1, Cond.code yX1_all cX1_all 1 (some .int), Cond.fieldLink RX1 30 "SmudgedStarModel" "things" "I", Cond.methodLink RX1 33 yX1_isIn, Cond.static yX1_isIn, Cond.code yX1_isIn cX1_isIn 3 (some .boolean), Cond.methodLink RX1 64 yX1_no, Cond.instanceMethod yX1_no, Cond.selects RX1 yX1_no yX1_no, Cond.code yX1_no cX1_no 2 (some .int), Cond.methodLink RX1 75 yX1_put, Cond.instanceMethod yX1_put, Cond.selects RX1 yX1_put yX1_put, Cond.code yX1_put cX1_put 3 none, Cond.fieldLink RX1 9 "SmudgedStarModel" "used" "[I", Cond.fieldLink RX1 13 "SmudgedStarModel" "smudged" "[Z"]
def wsX1_wouldChange_r2 : List Cond := [Cond.methodLink RX1 79 yX1_fewest, Cond.instanceMethod yX1_fewest, Cond.selects RX1 yX1_fewest yX1_fewest, Cond.code yX1_fewest cX1_fewest 3 (some .int), Cond.methodLink RX1 51 yX1_unexplained, Cond.instanceMethod yX1_unexplained, Cond.selects RX1 yX1_unexplained yX1_unexplained, Cond.code yX1_unexplained cX1_unexplained 4 (some .int), Cond.methodLink RX1 43 yX1_explains, Cond.static yX1_explains, Cond.code yX1_explains cX1_explains 3 (some .boolean), Cond.methodLink RX1 55 yJ6_bitCount_0f7a4, Cond.static yJ6_bitCount_0f7a4, Cond.initialized RJ6, Cond.code yJ6_bitCount_0f7a4 cJ6_bitCount_0f7a4 1 (some .int), Cond.constant RJ6 265 (1431655765), Cond.constant RJ6 266 (858993459), Cond.constant RJ6 267 (252645135)]
def wsX1_wouldChange : List Cond := .code yX1_wouldChange cX1_wouldChange 6 (some .int) :: ((wsX1_wouldChange_r1 ++ wsX1_wouldChange_r2) ++ wsX10)
def wsX1_meanBlame : List Cond := .code yX1_meanBlame cX1_meanBlame 3 (some .double) :: ([.fieldLink RX1 26 "SmudgedStarModel" "thrown" "I", .fieldLink RX1 40 "SmudgedStarModel" "astronomers" "I", .fieldLink RX1 23 "SmudgedStarModel" "blames" "[I", .methodLink RX1 55 yJ6_bitCount_0f7a4, .static yJ6_bitCount_0f7a4, .initialized RJ6, .code yJ6_bitCount_0f7a4 cJ6_bitCount_0f7a4 1 (some .int), .constant RJ6 265 (1431655765), .constant RJ6 266 (858993459), .constant RJ6 267 (252645135)] ++ wsX10)
def wsX1_one : List Cond := .code yX1_one cX1_one 1 (some .int) :: ([])
def wsX1_digest_r1 : List Cond := [Cond.fieldLink RX1 26 "SmudgedStarModel" "thrown" "I", Cond.arrayClass .int, Cond.fieldLink RX1 30 "SmudgedStarModel" "things" "I", Cond.fieldLink RX1 37 "SmudgedStarModel" "nights" "I", Cond.fieldLink RX1 40 "SmudgedStarModel" "astronomers" "I", Cond.fieldLink RX1 82 "SmudgedStarModel" "changes" "I", Cond.constantLong RX1 141 (1951), Cond.constantLong RX1 143 (31), Cond.fieldLink RX1 9 "SmudgedStarModel" "used" "[I", Cond.fieldLink RX1 13 "SmudgedStarModel" "smudged" "[Z", Cond.fieldLink RX1 23 "SmudgedStarModel" "blames" "[I", Cond.fieldLink RX1 20 "SmudgedStarModel" "left" "[I", Cond.methodLink RX1 110 yX1_smudgesNow, Cond.instanceMethod yX1_smudgesNow, Cond.selects RX1 yX1_smudgesNow yX1_smudgesNow, Cond.initialized RX1, Cond.code yX1_smudgesNow cX1_smudgesNow 3 (some .int), Cond.methodLink RX1 79 yX1_fewest, Cond.instanceMethod yX1_fewest, Cond.selects RX1 yX1_fewest yX1_fewest, Cond.code yX1_fewest cX1_fewest 3 (some .int), Cond.methodLink RX1 47 yX1_all, Cond.instanceMethod yX1_all, Cond.selects RX1 yX1_all yX1_all]
def wsX1_digest_r2 : List Cond := [Cond.code yX1_all cX1_all 1 (some .int), Cond.methodLink RX1 51 yX1_unexplained, Cond.instanceMethod yX1_unexplained, Cond.selects RX1 yX1_unexplained yX1_unexplained, Cond.code yX1_unexplained cX1_unexplained 4 (some .int), Cond.methodLink RX1 43 yX1_explains, Cond.static yX1_explains, Cond.code yX1_explains cX1_explains 3 (some .boolean), Cond.methodLink RX1 55 yJ6_bitCount_0f7a4, Cond.static yJ6_bitCount_0f7a4, Cond.initialized RJ6, Cond.code yJ6_bitCount_0f7a4 cJ6_bitCount_0f7a4 1 (some .int), Cond.constant RJ6 265 (1431655765), Cond.constant RJ6 266 (858993459), Cond.constant RJ6 267 (252645135), Cond.methodLink RX1 137 yX1_one, Cond.static yX1_one, Cond.code yX1_one cX1_one 1 (some .int), Cond.methodLink RX1 116 yX1_voted, Cond.instanceMethod yX1_voted, Cond.selects RX1 yX1_voted yX1_voted, Cond.code yX1_voted cX1_voted 3 (some .int), Cond.methodLink RX1 113 yX1_votes, Cond.instanceMethod yX1_votes]
def wsX1_digest_r3 : List Cond := [Cond.selects RX1 yX1_votes yX1_votes, Cond.code yX1_votes cX1_votes 4 (some .int), Cond.methodLink RX1 60 yX1_has, Cond.static yX1_has, Cond.code yX1_has cX1_has 2 (some .boolean), Cond.methodLink RX1 119 yX1_explaining, Cond.instanceMethod yX1_explaining, Cond.selects RX1 yX1_explaining yX1_explaining, Cond.code yX1_explaining cX1_explaining 3 (some .int), Cond.methodLink RX1 122 yX1_inAll, Cond.instanceMethod yX1_inAll, Cond.selects RX1 yX1_inAll yX1_inAll, Cond.code yX1_inAll cX1_inAll 3 (some .int), Cond.methodLink RX1 94 yX1_nightsOf, Cond.instanceMethod yX1_nightsOf, Cond.selects RX1 yX1_nightsOf yX1_nightsOf, Cond.code yX1_nightsOf cX1_nightsOf 5 (some .int), Cond.methodLink RX1 98 yX1_cleared, Cond.instanceMethod yX1_cleared, Cond.selects RX1 yX1_cleared yX1_cleared, Cond.code yX1_cleared cX1_cleared 3 (some .int), Cond.methodLink RX1 104 yX1_proved, Cond.instanceMethod yX1_proved, Cond.selects RX1 yX1_proved yX1_proved]
def wsX1_digest_r4 : List Cond := [Cond.code yX1_proved cX1_proved 4 (some .boolean), Cond.methodLink RX1 107 yX1_withThing, Cond.instanceMethod yX1_withThing, Cond.selects RX1 yX1_withThing yX1_withThing, Cond.code yX1_withThing cX1_withThing 4 (some .int)]
def wsX1_digest : List Cond := .code yX1_digest cX1_digest 10 (some .long) :: ((wsX1_digest_r1 ++ (wsX1_digest_r2 ++ (wsX1_digest_r3 ++ wsX1_digest_r4))) ++ wsX10)
def wsJ9_max_7cf53 : List Cond := .code yJ9_max_7cf53 cJ9_max_7cf53 2 (some .int) :: ([])
def wsJ9_min_7cf53 : List Cond := .code yJ9_min_7cf53 cJ9_min_7cf53 2 (some .int) :: ([])
def wsL_addThing : List Cond := .codeWith yL_addThing cL_addThing 3 (some .int) [(0, 8, 11, 13)] :: ([.classLink RL 13 "java/lang/IllegalStateException", .methodLink RL 7 yX0_addThing, .instanceMethod yX0_addThing, .selects RX0 yX0_addThing yX0_addThing, .initialized RX0, .code yX0_addThing cX0_addThing 2 (some .int), .classLink RX0 42 "java/lang/IllegalStateException", .initialized "java/lang/IllegalStateException", .fieldLink RX0 9 "SmudgedStar" "thingCount" "I"] ++ wsX00 ++ (vx_atS RX0 46 "java/lang/IllegalStateException" ["java/lang/RuntimeException", "java/lang/Exception"]).filter goodWord)
def wsL_addAstronomer : List Cond := .codeWith yL_addAstronomer cL_addAstronomer 4 (some .int) [(0, 9, 12, 19), (0, 9, 15, 13)] :: ([.classLink RL 19 "java/lang/IllegalArgumentException", .classLink RL 13 "java/lang/IllegalStateException", .methodLink RL 15 yX0_addAstronomer, .instanceMethod yX0_addAstronomer, .selects RX0 yX0_addAstronomer yX0_addAstronomer, .initialized RX0, .code yX0_addAstronomer cX0_addAstronomer 3 (some .int), .classLink RX0 49 "java/lang/IllegalArgumentException", .initialized "java/lang/IllegalArgumentException", .classLink RX0 42 "java/lang/IllegalStateException", .initialized "java/lang/IllegalStateException", .fieldLink RX0 27 "SmudgedStar" "astronomerCount" "I", .fieldLink RX0 36 "SmudgedStar" "stubbornnessAtFirst" "[I", .methodLink RX0 56 yX0_letBlame, .instanceMethod yX0_letBlame, .selects RX0 yX0_letBlame yX0_letBlame, .code yX0_letBlame cX0_letBlame 3 none, .fieldLink RX0 30 "SmudgedStar" "blamedThings" "[I", .fieldLink RX0 33 "SmudgedStar" "stubbornnessLeft" "[I"] ++ wsX00 ++ (vx_atS RX0 53 "java/lang/IllegalArgumentException" ["java/lang/RuntimeException", "java/lang/Exception"]).filter goodWord ++ (vx_atS RX0 46 "java/lang/IllegalStateException" ["java/lang/RuntimeException", "java/lang/Exception"]).filter goodWord)
def wsL_blame_r1 : List Cond := [Cond.classLink RL 25 "java/lang/IndexOutOfBoundsException", Cond.classLink RL 19 "java/lang/IllegalArgumentException", Cond.methodLink RL 21 yX0_blame, Cond.instanceMethod yX0_blame, Cond.selects RX0 yX0_blame yX0_blame, Cond.initialized RX0, Cond.code yX0_blame cX0_blame 4 (some .int), Cond.fieldLink RX0 30 "SmudgedStar" "blamedThings" "[I", Cond.methodLink RX0 60 yX0_requireAstronomer, Cond.instanceMethod yX0_requireAstronomer, Cond.selects RX0 yX0_requireAstronomer yX0_requireAstronomer, Cond.code yX0_requireAstronomer cX0_requireAstronomer 2 none, Cond.classLink RX0 187 "java/lang/IndexOutOfBoundsException", Cond.initialized "java/lang/IndexOutOfBoundsException", Cond.fieldLink RX0 27 "SmudgedStar" "astronomerCount" "I", Cond.methodLink RX0 64 yX0_requireSet, Cond.instanceMethod yX0_requireSet, Cond.selects RX0 yX0_requireSet yX0_requireSet, Cond.code yX0_requireSet cX0_requireSet 2 none, Cond.classLink RX0 49 "java/lang/IllegalArgumentException", Cond.initialized "java/lang/IllegalArgumentException", Cond.methodLink RX0 111 yX0_allThings, Cond.instanceMethod yX0_allThings, Cond.selects RX0 yX0_allThings yX0_allThings]
def wsL_blame_r2 : List Cond := [Cond.code yX0_allThings cX0_allThings 1 (some .int), Cond.fieldLink RX0 9 "SmudgedStar" "thingCount" "I", Cond.methodLink RX0 56 yX0_letBlame, Cond.instanceMethod yX0_letBlame, Cond.selects RX0 yX0_letBlame yX0_letBlame, Cond.code yX0_letBlame cX0_letBlame 3 none, Cond.fieldLink RX0 33 "SmudgedStar" "stubbornnessLeft" "[I", Cond.fieldLink RX0 36 "SmudgedStar" "stubbornnessAtFirst" "[I"]
def wsL_blame : List Cond := .codeWith yL_blame cL_blame 5 (some .int) [(0, 10, 13, 25), (0, 10, 17, 19)] :: ((wsL_blame_r1 ++ wsL_blame_r2) ++ wsX00 ++ (vx_atS RX0 191 "java/lang/IndexOutOfBoundsException" ["java/lang/RuntimeException", "java/lang/Exception"]).filter goodWord ++ (vx_atS RX0 53 "java/lang/IllegalArgumentException" ["java/lang/RuntimeException", "java/lang/Exception"]).filter goodWord)
def wsL_writeDown_r1 : List Cond := [Cond.classLink RL 19 "java/lang/IllegalArgumentException", Cond.classLink RL 13 "java/lang/IllegalStateException", Cond.methodLink RL 27 yX0_writeDown, Cond.instanceMethod yX0_writeDown, Cond.selects RX0 yX0_writeDown yX0_writeDown, Cond.initialized RX0, Cond.code yX0_writeDown cX0_writeDown 4 (some .int), Cond.fieldLink RX0 16 "SmudgedStar" "usedThings" "[I", Cond.fieldLink RX0 13 "SmudgedStar" "nightCount" "I", Cond.fieldLink RX0 20 "SmudgedStar" "smudgeSeen" "[Z", Cond.fieldLink RX0 39 "SmudgedStar" "mindsChanged" "I", Cond.methodLink RX0 67 yX0_requireUsableSet, Cond.instanceMethod yX0_requireUsableSet, Cond.selects RX0 yX0_requireUsableSet yX0_requireUsableSet, Cond.code yX0_requireUsableSet cX0_requireUsableSet 2 none, Cond.classLink RX0 49 "java/lang/IllegalArgumentException", Cond.initialized "java/lang/IllegalArgumentException", Cond.methodLink RX0 111 yX0_allThings, Cond.instanceMethod yX0_allThings, Cond.selects RX0 yX0_allThings yX0_allThings, Cond.code yX0_allThings cX0_allThings 1 (some .int), Cond.fieldLink RX0 9 "SmudgedStar" "thingCount" "I", Cond.methodLink RX0 70 yX0_requireRoomForNight, Cond.instanceMethod yX0_requireRoomForNight]
def wsL_writeDown_r2 : List Cond := [Cond.selects RX0 yX0_requireRoomForNight yX0_requireRoomForNight, Cond.code yX0_requireRoomForNight cX0_requireRoomForNight 1 none, Cond.classLink RX0 42 "java/lang/IllegalStateException", Cond.initialized "java/lang/IllegalStateException", Cond.methodLink RX0 73 yX0_countMisses, Cond.instanceMethod yX0_countMisses, Cond.selects RX0 yX0_countMisses yX0_countMisses, Cond.code yX0_countMisses cX0_countMisses 5 none, Cond.fieldLink RX0 24 "SmudgedStar" "missedNights" "[I", Cond.methodLink RX0 139 yX0_explains, Cond.static yX0_explains, Cond.code yX0_explains cX0_explains 3 (some .boolean), Cond.methodLink RX0 77 yX0_letAstronomersSee, Cond.instanceMethod yX0_letAstronomersSee, Cond.selects RX0 yX0_letAstronomersSee yX0_letAstronomersSee, Cond.code yX0_letAstronomersSee cX0_letAstronomersSee 6 (some .int), Cond.fieldLink RX0 27 "SmudgedStar" "astronomerCount" "I", Cond.fieldLink RX0 30 "SmudgedStar" "blamedThings" "[I", Cond.fieldLink RX0 33 "SmudgedStar" "stubbornnessLeft" "[I", Cond.methodLink RX0 171 yX0_simplest, Cond.instanceMethod yX0_simplest, Cond.selects RX0 yX0_simplest yX0_simplest, Cond.code yX0_simplest cX0_simplest 4 (some .int), Cond.methodLink RX0 105 yX0_missesOf]
def wsL_writeDown_r3 : List Cond := [Cond.instanceMethod yX0_missesOf, Cond.selects RX0 yX0_missesOf yX0_missesOf, Cond.code yX0_missesOf cX0_missesOf 2 (some .int), Cond.methodLink RX0 114 yJ6_bitCount_0f7a4, Cond.static yJ6_bitCount_0f7a4, Cond.initialized RJ6, Cond.code yJ6_bitCount_0f7a4 cJ6_bitCount_0f7a4 1 (some .int), Cond.constant RJ6 265 (1431655765), Cond.constant RJ6 266 (858993459), Cond.constant RJ6 267 (252645135), Cond.methodLink RX0 56 yX0_letBlame, Cond.instanceMethod yX0_letBlame, Cond.selects RX0 yX0_letBlame yX0_letBlame, Cond.code yX0_letBlame cX0_letBlame 3 none, Cond.fieldLink RX0 36 "SmudgedStar" "stubbornnessAtFirst" "[I"]
def wsL_writeDown : List Cond := .codeWith yL_writeDown cL_writeDown 5 (some .int) [(0, 10, 13, 19), (0, 10, 17, 13)] :: ((wsL_writeDown_r1 ++ (wsL_writeDown_r2 ++ wsL_writeDown_r3)) ++ wsX00 ++ (vx_atS RX0 53 "java/lang/IllegalArgumentException" ["java/lang/RuntimeException", "java/lang/Exception"]).filter goodWord ++ (vx_atS RX0 46 "java/lang/IllegalStateException" ["java/lang/RuntimeException", "java/lang/Exception"]).filter goodWord)
def wsL_strike : List Cond := .codeWith yL_strike cL_strike 4 (some .int) [(0, 9, 12, 25)] :: ([.classLink RL 25 "java/lang/IndexOutOfBoundsException", .methodLink RL 31 yX0_strike, .instanceMethod yX0_strike, .selects RX0 yX0_strike yX0_strike, .initialized RX0, .code yX0_strike cX0_strike 3 (some .int), .fieldLink RX0 16 "SmudgedStar" "usedThings" "[I", .fieldLink RX0 20 "SmudgedStar" "smudgeSeen" "[Z", .fieldLink RX0 13 "SmudgedStar" "nightCount" "I", .methodLink RX0 81 yX0_requireNight, .instanceMethod yX0_requireNight, .selects RX0 yX0_requireNight yX0_requireNight, .code yX0_requireNight cX0_requireNight 2 none, .classLink RX0 187 "java/lang/IndexOutOfBoundsException", .initialized "java/lang/IndexOutOfBoundsException", .methodLink RX0 73 yX0_countMisses, .instanceMethod yX0_countMisses, .selects RX0 yX0_countMisses yX0_countMisses, .code yX0_countMisses cX0_countMisses 5 none, .fieldLink RX0 24 "SmudgedStar" "missedNights" "[I", .methodLink RX0 139 yX0_explains, .static yX0_explains, .code yX0_explains cX0_explains 3 (some .boolean)] ++ wsX00 ++ (vx_atS RX0 191 "java/lang/IndexOutOfBoundsException" ["java/lang/RuntimeException", "java/lang/Exception"]).filter goodWord)
def wsL_nightsWith : List Cond := .codeWith yL_nightsWith cL_nightsWith 4 (some .int) [(0, 9, 12, 25)] :: ([.classLink RL 25 "java/lang/IndexOutOfBoundsException", .methodLink RL 34 yX0_nightsWith, .instanceMethod yX0_nightsWith, .selects RX0 yX0_nightsWith yX0_nightsWith, .initialized RX0, .code yX0_nightsWith cX0_nightsWith 4 (some .int), .fieldLink RX0 13 "SmudgedStar" "nightCount" "I", .fieldLink RX0 16 "SmudgedStar" "usedThings" "[I", .methodLink RX0 84 yX0_requireThing, .instanceMethod yX0_requireThing, .selects RX0 yX0_requireThing yX0_requireThing, .code yX0_requireThing cX0_requireThing 2 none, .classLink RX0 187 "java/lang/IndexOutOfBoundsException", .initialized "java/lang/IndexOutOfBoundsException", .fieldLink RX0 9 "SmudgedStar" "thingCount" "I", .methodLink RX0 87 yX0_holds, .static yX0_holds, .code yX0_holds cX0_holds 2 (some .boolean), .methodLink RX0 95 yX0_setOf, .static yX0_setOf, .code yX0_setOf cX0_setOf 1 (some .int)] ++ wsX00 ++ (vx_atS RX0 191 "java/lang/IndexOutOfBoundsException" ["java/lang/RuntimeException", "java/lang/Exception"]).filter goodWord)
def wsL_smudgesWith : List Cond := .codeWith yL_smudgesWith cL_smudgesWith 4 (some .int) [(0, 9, 12, 25)] :: ([.classLink RL 25 "java/lang/IndexOutOfBoundsException", .methodLink RL 37 yX0_smudgesWith, .instanceMethod yX0_smudgesWith, .selects RX0 yX0_smudgesWith yX0_smudgesWith, .initialized RX0, .code yX0_smudgesWith cX0_smudgesWith 4 (some .int), .fieldLink RX0 13 "SmudgedStar" "nightCount" "I", .fieldLink RX0 20 "SmudgedStar" "smudgeSeen" "[Z", .fieldLink RX0 16 "SmudgedStar" "usedThings" "[I", .methodLink RX0 84 yX0_requireThing, .instanceMethod yX0_requireThing, .selects RX0 yX0_requireThing yX0_requireThing, .code yX0_requireThing cX0_requireThing 2 none, .classLink RX0 187 "java/lang/IndexOutOfBoundsException", .initialized "java/lang/IndexOutOfBoundsException", .fieldLink RX0 9 "SmudgedStar" "thingCount" "I", .methodLink RX0 87 yX0_holds, .static yX0_holds, .code yX0_holds cX0_holds 2 (some .boolean), .methodLink RX0 95 yX0_setOf, .static yX0_setOf, .code yX0_setOf cX0_setOf 1 (some .int)] ++ wsX00 ++ (vx_atS RX0 191 "java/lang/IndexOutOfBoundsException" ["java/lang/RuntimeException", "java/lang/Exception"]).filter goodWord)
def wsL_isCleared_r1 : List Cond := [Cond.classLink RL 25 "java/lang/IndexOutOfBoundsException", Cond.methodLink RL 40 yX0_isCleared, Cond.instanceMethod yX0_isCleared, Cond.selects RX0 yX0_isCleared yX0_isCleared, Cond.initialized RX0, Cond.code yX0_isCleared cX0_isCleared 2 (some .boolean), Cond.methodLink RX0 84 yX0_requireThing, Cond.instanceMethod yX0_requireThing, Cond.selects RX0 yX0_requireThing yX0_requireThing, Cond.code yX0_requireThing cX0_requireThing 2 none, Cond.classLink RX0 187 "java/lang/IndexOutOfBoundsException", Cond.initialized "java/lang/IndexOutOfBoundsException", Cond.fieldLink RX0 9 "SmudgedStar" "thingCount" "I", Cond.methodLink RX0 91 yX0_clearedThings, Cond.instanceMethod yX0_clearedThings, Cond.selects RX0 yX0_clearedThings yX0_clearedThings, Cond.code yX0_clearedThings cX0_clearedThings 3 (some .int), Cond.fieldLink RX0 13 "SmudgedStar" "nightCount" "I", Cond.fieldLink RX0 20 "SmudgedStar" "smudgeSeen" "[Z", Cond.fieldLink RX0 16 "SmudgedStar" "usedThings" "[I", Cond.methodLink RX0 87 yX0_holds, Cond.static yX0_holds, Cond.code yX0_holds cX0_holds 2 (some .boolean), Cond.methodLink RX0 95 yX0_setOf]
def wsL_isCleared_r2 : List Cond := [Cond.static yX0_setOf, Cond.code yX0_setOf cX0_setOf 1 (some .int)]
def wsL_isCleared : List Cond := .codeWith yL_isCleared cL_isCleared 4 (some .int) [(0, 16, 19, 25)] :: ((wsL_isCleared_r1 ++ wsL_isCleared_r2) ++ wsX00 ++ (vx_atS RX0 191 "java/lang/IndexOutOfBoundsException" ["java/lang/RuntimeException", "java/lang/Exception"]).filter goodWord)
def wsL_isProved_r1 : List Cond := [Cond.classLink RL 25 "java/lang/IndexOutOfBoundsException", Cond.methodLink RL 44 yX0_isProved, Cond.instanceMethod yX0_isProved, Cond.selects RX0 yX0_isProved yX0_isProved, Cond.initialized RX0, Cond.code yX0_isProved cX0_isProved 5 (some .boolean), Cond.fieldLink RX0 13 "SmudgedStar" "nightCount" "I", Cond.fieldLink RX0 16 "SmudgedStar" "usedThings" "[I", Cond.fieldLink RX0 20 "SmudgedStar" "smudgeSeen" "[Z", Cond.methodLink RX0 84 yX0_requireThing, Cond.instanceMethod yX0_requireThing, Cond.selects RX0 yX0_requireThing yX0_requireThing, Cond.code yX0_requireThing cX0_requireThing 2 none, Cond.classLink RX0 187 "java/lang/IndexOutOfBoundsException", Cond.initialized "java/lang/IndexOutOfBoundsException", Cond.fieldLink RX0 9 "SmudgedStar" "thingCount" "I", Cond.methodLink RX0 91 yX0_clearedThings, Cond.instanceMethod yX0_clearedThings, Cond.selects RX0 yX0_clearedThings yX0_clearedThings, Cond.code yX0_clearedThings cX0_clearedThings 3 (some .int), Cond.methodLink RX0 95 yX0_setOf, Cond.static yX0_setOf, Cond.code yX0_setOf cX0_setOf 1 (some .int), Cond.methodLink RX0 87 yX0_holds]
def wsL_isProved_r2 : List Cond := [Cond.static yX0_holds, Cond.code yX0_holds cX0_holds 2 (some .boolean)]
def wsL_isProved : List Cond := .codeWith yL_isProved cL_isProved 4 (some .int) [(0, 16, 19, 25)] :: ((wsL_isProved_r1 ++ wsL_isProved_r2) ++ wsX00 ++ (vx_atS RX0 191 "java/lang/IndexOutOfBoundsException" ["java/lang/RuntimeException", "java/lang/Exception"]).filter goodWord)
def wsL_setsWith_r1 : List Cond := [Cond.classLink RL 25 "java/lang/IndexOutOfBoundsException", Cond.methodLink RL 47 yX0_setsWith, Cond.instanceMethod yX0_setsWith, Cond.selects RX0 yX0_setsWith yX0_setsWith, Cond.initialized RX0, Cond.code yX0_setsWith cX0_setsWith 2 (some .int), Cond.methodLink RX0 84 yX0_requireThing, Cond.instanceMethod yX0_requireThing, Cond.selects RX0 yX0_requireThing yX0_requireThing, Cond.code yX0_requireThing cX0_requireThing 2 none, Cond.classLink RX0 187 "java/lang/IndexOutOfBoundsException", Cond.initialized "java/lang/IndexOutOfBoundsException", Cond.fieldLink RX0 9 "SmudgedStar" "thingCount" "I", Cond.methodLink RX0 95 yX0_setOf, Cond.static yX0_setOf, Cond.code yX0_setOf cX0_setOf 1 (some .int), Cond.methodLink RX0 99 yX0_explanationsMeeting, Cond.instanceMethod yX0_explanationsMeeting, Cond.selects RX0 yX0_explanationsMeeting yX0_explanationsMeeting, Cond.code yX0_explanationsMeeting cX0_explanationsMeeting 4 (some .int), Cond.methodLink RX0 111 yX0_allThings, Cond.instanceMethod yX0_allThings, Cond.selects RX0 yX0_allThings yX0_allThings, Cond.code yX0_allThings cX0_allThings 1 (some .int)]
def wsL_setsWith_r2 : List Cond := [Cond.methodLink RX0 105 yX0_missesOf, Cond.instanceMethod yX0_missesOf, Cond.selects RX0 yX0_missesOf yX0_missesOf, Cond.code yX0_missesOf cX0_missesOf 2 (some .int), Cond.fieldLink RX0 24 "SmudgedStar" "missedNights" "[I"]
def wsL_setsWith : List Cond := .codeWith yL_setsWith cL_setsWith 4 (some .int) [(0, 9, 12, 25)] :: ((wsL_setsWith_r1 ++ wsL_setsWith_r2) ++ wsX00 ++ (vx_atS RX0 191 "java/lang/IndexOutOfBoundsException" ["java/lang/RuntimeException", "java/lang/Exception"]).filter goodWord)
def wsL_usedIn : List Cond := .codeWith yL_usedIn cL_usedIn 4 (some .int) [(0, 9, 12, 25)] :: ([.classLink RL 25 "java/lang/IndexOutOfBoundsException", .methodLink RL 50 yX0_usedIn, .instanceMethod yX0_usedIn, .selects RX0 yX0_usedIn yX0_usedIn, .initialized RX0, .code yX0_usedIn cX0_usedIn 2 (some .int), .fieldLink RX0 16 "SmudgedStar" "usedThings" "[I", .methodLink RX0 81 yX0_requireNight, .instanceMethod yX0_requireNight, .selects RX0 yX0_requireNight yX0_requireNight, .code yX0_requireNight cX0_requireNight 2 none, .classLink RX0 187 "java/lang/IndexOutOfBoundsException", .initialized "java/lang/IndexOutOfBoundsException", .fieldLink RX0 13 "SmudgedStar" "nightCount" "I"] ++ wsX00 ++ (vx_atS RX0 191 "java/lang/IndexOutOfBoundsException" ["java/lang/RuntimeException", "java/lang/Exception"]).filter goodWord)
def wsL_isSmudged : List Cond := .codeWith yL_isSmudged cL_isSmudged 4 (some .int) [(0, 16, 19, 25)] :: ([.classLink RL 25 "java/lang/IndexOutOfBoundsException", .methodLink RL 53 yX0_isSmudged, .instanceMethod yX0_isSmudged, .selects RX0 yX0_isSmudged yX0_isSmudged, .initialized RX0, .code yX0_isSmudged cX0_isSmudged 2 (some .boolean), .fieldLink RX0 20 "SmudgedStar" "smudgeSeen" "[Z", .methodLink RX0 81 yX0_requireNight, .instanceMethod yX0_requireNight, .selects RX0 yX0_requireNight yX0_requireNight, .code yX0_requireNight cX0_requireNight 2 none, .classLink RX0 187 "java/lang/IndexOutOfBoundsException", .initialized "java/lang/IndexOutOfBoundsException", .fieldLink RX0 13 "SmudgedStar" "nightCount" "I"] ++ wsX00 ++ (vx_atS RX0 191 "java/lang/IndexOutOfBoundsException" ["java/lang/RuntimeException", "java/lang/Exception"]).filter goodWord)
def wsL_blamedBy : List Cond := .codeWith yL_blamedBy cL_blamedBy 4 (some .int) [(0, 9, 12, 25)] :: ([.classLink RL 25 "java/lang/IndexOutOfBoundsException", .methodLink RL 56 yX0_blamedBy, .instanceMethod yX0_blamedBy, .selects RX0 yX0_blamedBy yX0_blamedBy, .initialized RX0, .code yX0_blamedBy cX0_blamedBy 2 (some .int), .fieldLink RX0 30 "SmudgedStar" "blamedThings" "[I", .methodLink RX0 60 yX0_requireAstronomer, .instanceMethod yX0_requireAstronomer, .selects RX0 yX0_requireAstronomer yX0_requireAstronomer, .code yX0_requireAstronomer cX0_requireAstronomer 2 none, .classLink RX0 187 "java/lang/IndexOutOfBoundsException", .initialized "java/lang/IndexOutOfBoundsException", .fieldLink RX0 27 "SmudgedStar" "astronomerCount" "I"] ++ wsX00 ++ (vx_atS RX0 191 "java/lang/IndexOutOfBoundsException" ["java/lang/RuntimeException", "java/lang/Exception"]).filter goodWord)
def wsL_stubbornnessOf : List Cond := .codeWith yL_stubbornnessOf cL_stubbornnessOf 4 (some .int) [(0, 9, 12, 25)] :: ([.classLink RL 25 "java/lang/IndexOutOfBoundsException", .methodLink RL 59 yX0_stubbornnessOf, .instanceMethod yX0_stubbornnessOf, .selects RX0 yX0_stubbornnessOf yX0_stubbornnessOf, .initialized RX0, .code yX0_stubbornnessOf cX0_stubbornnessOf 2 (some .int), .fieldLink RX0 33 "SmudgedStar" "stubbornnessLeft" "[I", .methodLink RX0 60 yX0_requireAstronomer, .instanceMethod yX0_requireAstronomer, .selects RX0 yX0_requireAstronomer yX0_requireAstronomer, .code yX0_requireAstronomer cX0_requireAstronomer 2 none, .classLink RX0 187 "java/lang/IndexOutOfBoundsException", .initialized "java/lang/IndexOutOfBoundsException", .fieldLink RX0 27 "SmudgedStar" "astronomerCount" "I"] ++ wsX00 ++ (vx_atS RX0 191 "java/lang/IndexOutOfBoundsException" ["java/lang/RuntimeException", "java/lang/Exception"]).filter goodWord)
def wsL_unexplainedBy : List Cond := .codeWith yL_unexplainedBy cL_unexplainedBy 4 (some .int) [(0, 9, 12, 25)] :: ([.classLink RL 25 "java/lang/IndexOutOfBoundsException", .methodLink RL 62 yX0_unexplainedBy, .instanceMethod yX0_unexplainedBy, .selects RX0 yX0_unexplainedBy yX0_unexplainedBy, .initialized RX0, .code yX0_unexplainedBy cX0_unexplainedBy 2 (some .int), .fieldLink RX0 30 "SmudgedStar" "blamedThings" "[I", .methodLink RX0 60 yX0_requireAstronomer, .instanceMethod yX0_requireAstronomer, .selects RX0 yX0_requireAstronomer yX0_requireAstronomer, .code yX0_requireAstronomer cX0_requireAstronomer 2 none, .classLink RX0 187 "java/lang/IndexOutOfBoundsException", .initialized "java/lang/IndexOutOfBoundsException", .fieldLink RX0 27 "SmudgedStar" "astronomerCount" "I", .methodLink RX0 105 yX0_missesOf, .instanceMethod yX0_missesOf, .selects RX0 yX0_missesOf yX0_missesOf, .code yX0_missesOf cX0_missesOf 2 (some .int), .fieldLink RX0 24 "SmudgedStar" "missedNights" "[I"] ++ wsX00 ++ (vx_atS RX0 191 "java/lang/IndexOutOfBoundsException" ["java/lang/RuntimeException", "java/lang/Exception"]).filter goodWord)
def wsL_votesFor : List Cond := .codeWith yL_votesFor cL_votesFor 4 (some .int) [(0, 9, 12, 25)] :: ([.classLink RL 25 "java/lang/IndexOutOfBoundsException", .methodLink RL 65 yX0_votesFor, .instanceMethod yX0_votesFor, .selects RX0 yX0_votesFor yX0_votesFor, .initialized RX0, .code yX0_votesFor cX0_votesFor 4 (some .int), .fieldLink RX0 27 "SmudgedStar" "astronomerCount" "I", .fieldLink RX0 30 "SmudgedStar" "blamedThings" "[I", .methodLink RX0 84 yX0_requireThing, .instanceMethod yX0_requireThing, .selects RX0 yX0_requireThing yX0_requireThing, .code yX0_requireThing cX0_requireThing 2 none, .classLink RX0 187 "java/lang/IndexOutOfBoundsException", .initialized "java/lang/IndexOutOfBoundsException", .fieldLink RX0 9 "SmudgedStar" "thingCount" "I", .methodLink RX0 87 yX0_holds, .static yX0_holds, .code yX0_holds cX0_holds 2 (some .boolean), .methodLink RX0 95 yX0_setOf, .static yX0_setOf, .code yX0_setOf cX0_setOf 1 (some .int)] ++ wsX00 ++ (vx_atS RX0 191 "java/lang/IndexOutOfBoundsException" ["java/lang/RuntimeException", "java/lang/Exception"]).filter goodWord)
def wsL_explainsAll : List Cond := .codeWith yL_explainsAll cL_explainsAll 4 (some .int) [(0, 16, 19, 19)] :: ([.classLink RL 19 "java/lang/IllegalArgumentException", .methodLink RL 68 yX0_explainsAll, .instanceMethod yX0_explainsAll, .selects RX0 yX0_explainsAll yX0_explainsAll, .initialized RX0, .code yX0_explainsAll cX0_explainsAll 2 (some .boolean), .methodLink RX0 64 yX0_requireSet, .instanceMethod yX0_requireSet, .selects RX0 yX0_requireSet yX0_requireSet, .code yX0_requireSet cX0_requireSet 2 none, .classLink RX0 49 "java/lang/IllegalArgumentException", .initialized "java/lang/IllegalArgumentException", .methodLink RX0 111 yX0_allThings, .instanceMethod yX0_allThings, .selects RX0 yX0_allThings yX0_allThings, .code yX0_allThings cX0_allThings 1 (some .int), .fieldLink RX0 9 "SmudgedStar" "thingCount" "I", .methodLink RX0 105 yX0_missesOf, .instanceMethod yX0_missesOf, .selects RX0 yX0_missesOf yX0_missesOf, .code yX0_missesOf cX0_missesOf 2 (some .int), .fieldLink RX0 24 "SmudgedStar" "missedNights" "[I"] ++ wsX00 ++ (vx_atS RX0 53 "java/lang/IllegalArgumentException" ["java/lang/RuntimeException", "java/lang/Exception"]).filter goodWord)
def wsL_leftIfSmudged_r1 : List Cond := [Cond.classLink RL 19 "java/lang/IllegalArgumentException", Cond.methodLink RL 71 yX0_leftIfSmudged, Cond.instanceMethod yX0_leftIfSmudged, Cond.selects RX0 yX0_leftIfSmudged yX0_leftIfSmudged, Cond.initialized RX0, Cond.code yX0_leftIfSmudged cX0_leftIfSmudged 2 (some .int), Cond.methodLink RX0 67 yX0_requireUsableSet, Cond.instanceMethod yX0_requireUsableSet, Cond.selects RX0 yX0_requireUsableSet yX0_requireUsableSet, Cond.code yX0_requireUsableSet cX0_requireUsableSet 2 none, Cond.classLink RX0 49 "java/lang/IllegalArgumentException", Cond.initialized "java/lang/IllegalArgumentException", Cond.methodLink RX0 111 yX0_allThings, Cond.instanceMethod yX0_allThings, Cond.selects RX0 yX0_allThings yX0_allThings, Cond.code yX0_allThings cX0_allThings 1 (some .int), Cond.fieldLink RX0 9 "SmudgedStar" "thingCount" "I", Cond.methodLink RX0 99 yX0_explanationsMeeting, Cond.instanceMethod yX0_explanationsMeeting, Cond.selects RX0 yX0_explanationsMeeting yX0_explanationsMeeting, Cond.code yX0_explanationsMeeting cX0_explanationsMeeting 4 (some .int), Cond.methodLink RX0 105 yX0_missesOf, Cond.instanceMethod yX0_missesOf, Cond.selects RX0 yX0_missesOf yX0_missesOf]
def wsL_leftIfSmudged_r2 : List Cond := [Cond.code yX0_missesOf cX0_missesOf 2 (some .int), Cond.fieldLink RX0 24 "SmudgedStar" "missedNights" "[I"]
def wsL_leftIfSmudged : List Cond := .codeWith yL_leftIfSmudged cL_leftIfSmudged 4 (some .int) [(0, 9, 12, 19)] :: ((wsL_leftIfSmudged_r1 ++ wsL_leftIfSmudged_r2) ++ wsX00 ++ (vx_atS RX0 53 "java/lang/IllegalArgumentException" ["java/lang/RuntimeException", "java/lang/Exception"]).filter goodWord)
def wsL_wouldChange_r1 : List Cond := [Cond.classLink RL 19 "java/lang/IllegalArgumentException", Cond.classLink RL 13 "java/lang/IllegalStateException", Cond.methodLink RL 74 yX0_wouldChange, Cond.instanceMethod yX0_wouldChange, Cond.selects RX0 yX0_wouldChange yX0_wouldChange, Cond.initialized RX0, Cond.code yX0_wouldChange cX0_wouldChange 5 (some .int), Cond.fieldLink RX0 27 "SmudgedStar" "astronomerCount" "I", Cond.fieldLink RX0 30 "SmudgedStar" "blamedThings" "[I", Cond.fieldLink RX0 33 "SmudgedStar" "stubbornnessLeft" "[I", Cond.methodLink RX0 67 yX0_requireUsableSet, Cond.instanceMethod yX0_requireUsableSet, Cond.selects RX0 yX0_requireUsableSet yX0_requireUsableSet, Cond.code yX0_requireUsableSet cX0_requireUsableSet 2 none, Cond.classLink RX0 49 "java/lang/IllegalArgumentException", Cond.initialized "java/lang/IllegalArgumentException", Cond.methodLink RX0 111 yX0_allThings, Cond.instanceMethod yX0_allThings, Cond.selects RX0 yX0_allThings yX0_allThings, Cond.code yX0_allThings cX0_allThings 1 (some .int), Cond.fieldLink RX0 9 "SmudgedStar" "thingCount" "I", Cond.methodLink RX0 70 yX0_requireRoomForNight, Cond.instanceMethod yX0_requireRoomForNight, Cond.selects RX0 yX0_requireRoomForNight yX0_requireRoomForNight]
def wsL_wouldChange_r2 : List Cond := [Cond.code yX0_requireRoomForNight cX0_requireRoomForNight 1 none, Cond.classLink RX0 42 "java/lang/IllegalStateException", Cond.initialized "java/lang/IllegalStateException", Cond.fieldLink RX0 13 "SmudgedStar" "nightCount" "I", Cond.methodLink RX0 135 yX0_wouldAgreeWith, Cond.instanceMethod yX0_wouldAgreeWith, Cond.selects RX0 yX0_wouldAgreeWith yX0_wouldAgreeWith, Cond.code yX0_wouldAgreeWith cX0_wouldAgreeWith 4 (some .boolean), Cond.methodLink RX0 105 yX0_missesOf, Cond.instanceMethod yX0_missesOf, Cond.selects RX0 yX0_missesOf yX0_missesOf, Cond.code yX0_missesOf cX0_missesOf 2 (some .int), Cond.fieldLink RX0 24 "SmudgedStar" "missedNights" "[I", Cond.methodLink RX0 139 yX0_explains, Cond.static yX0_explains, Cond.code yX0_explains cX0_explains 3 (some .boolean)]
def wsL_wouldChange : List Cond := .codeWith yL_wouldChange cL_wouldChange 5 (some .int) [(0, 10, 13, 19), (0, 10, 17, 13)] :: ((wsL_wouldChange_r1 ++ wsL_wouldChange_r2) ++ wsX00 ++ (vx_atS RX0 53 "java/lang/IllegalArgumentException" ["java/lang/RuntimeException", "java/lang/Exception"]).filter goodWord ++ (vx_atS RX0 46 "java/lang/IllegalStateException" ["java/lang/RuntimeException", "java/lang/Exception"]).filter goodWord)
def wsL_law0_r1 : List Cond := [Cond.classLink RL 8 RX0, Cond.instantiable RX0 10, Cond.initialized RX0, Cond.classLink RL 78 RX1, Cond.instantiable RX1 10, Cond.initialized RX1, Cond.arrayClass .long, Cond.methodLink RL 77 yX0_init, Cond.instanceMethod yX0_init, Cond.code yX0_init cX0_init 1 none, Cond.methodLink RX0 3 objectInit, Cond.instanceMethod objectInit, Cond.code objectInit ⟨#[0xb1]⟩ 1 none, Cond.fieldLink RX0 9 "SmudgedStar" "thingCount" "I", Cond.fieldLink RX0 13 "SmudgedStar" "nightCount" "I", Cond.arrayClass .int, Cond.fieldLink RX0 16 "SmudgedStar" "usedThings" "[I", Cond.arrayClass .boolean, Cond.fieldLink RX0 20 "SmudgedStar" "smudgeSeen" "[Z", Cond.fieldLink RX0 24 "SmudgedStar" "missedNights" "[I", Cond.fieldLink RX0 27 "SmudgedStar" "astronomerCount" "I", Cond.fieldLink RX0 30 "SmudgedStar" "blamedThings" "[I", Cond.fieldLink RX0 33 "SmudgedStar" "stubbornnessLeft" "[I", Cond.fieldLink RX0 36 "SmudgedStar" "stubbornnessAtFirst" "[I"]
def wsL_law0_r2 : List Cond := [Cond.fieldLink RX0 39 "SmudgedStar" "mindsChanged" "I", Cond.methodLink RL 80 yX1_init, Cond.instanceMethod yX1_init, Cond.code yX1_init cX1_init 1 none, Cond.methodLink RX1 1 objectInit, Cond.fieldLink RX1 9 "SmudgedStarModel" "used" "[I", Cond.fieldLink RX1 13 "SmudgedStarModel" "smudged" "[Z", Cond.fieldLink RX1 17 "SmudgedStarModel" "first" "[I", Cond.fieldLink RX1 20 "SmudgedStarModel" "left" "[I", Cond.fieldLink RX1 23 "SmudgedStarModel" "blames" "[I", Cond.methodLink RL 81 yL_addThing, Cond.static yL_addThing, Cond.initialized RL, Cond.codeWith yL_addThing cL_addThing 3 (some .int) [(0, 8, 11, 13)], Cond.classLink RL 13 "java/lang/IllegalStateException", Cond.methodLink RL 7 yX0_addThing, Cond.instanceMethod yX0_addThing, Cond.selects RX0 yX0_addThing yX0_addThing, Cond.code yX0_addThing cX0_addThing 2 (some .int), Cond.classLink RX0 42 "java/lang/IllegalStateException", Cond.initialized "java/lang/IllegalStateException", Cond.methodLink RL 86 yX1_addThing, Cond.instanceMethod yX1_addThing, Cond.selects RX1 yX1_addThing yX1_addThing]
def wsL_law0_r3 : List Cond := [Cond.code yX1_addThing cX1_addThing 1 (some .int), Cond.fieldLink RX1 26 "SmudgedStarModel" "thrown" "I", Cond.fieldLink RX1 30 "SmudgedStarModel" "things" "I", Cond.methodLink RX1 64 yX1_no, Cond.instanceMethod yX1_no, Cond.selects RX1 yX1_no yX1_no, Cond.code yX1_no cX1_no 2 (some .int), Cond.methodLink RL 87 yX1_thrown, Cond.instanceMethod yX1_thrown, Cond.selects RX1 yX1_thrown yX1_thrown, Cond.code yX1_thrown cX1_thrown 1 (some .int), Cond.methodLink RL 90 yL_addAstronomer, Cond.static yL_addAstronomer, Cond.codeWith yL_addAstronomer cL_addAstronomer 4 (some .int) [(0, 9, 12, 19), (0, 9, 15, 13)], Cond.classLink RL 19 "java/lang/IllegalArgumentException", Cond.methodLink RL 15 yX0_addAstronomer, Cond.instanceMethod yX0_addAstronomer, Cond.selects RX0 yX0_addAstronomer yX0_addAstronomer, Cond.code yX0_addAstronomer cX0_addAstronomer 3 (some .int), Cond.classLink RX0 49 "java/lang/IllegalArgumentException", Cond.initialized "java/lang/IllegalArgumentException", Cond.methodLink RX0 56 yX0_letBlame, Cond.instanceMethod yX0_letBlame, Cond.selects RX0 yX0_letBlame yX0_letBlame]
def wsL_law0_r4 : List Cond := [Cond.code yX0_letBlame cX0_letBlame 3 none, Cond.methodLink RL 93 yX1_addAstronomer, Cond.instanceMethod yX1_addAstronomer, Cond.selects RX1 yX1_addAstronomer yX1_addAstronomer, Cond.code yX1_addAstronomer cX1_addAstronomer 2 (some .int), Cond.fieldLink RX1 40 "SmudgedStarModel" "astronomers" "I", Cond.methodLink RX1 33 yX1_isIn, Cond.static yX1_isIn, Cond.code yX1_isIn cX1_isIn 3 (some .boolean), Cond.methodLink RL 94 yL_blame, Cond.static yL_blame, Cond.codeWith yL_blame cL_blame 5 (some .int) [(0, 10, 13, 25), (0, 10, 17, 19)], Cond.classLink RL 25 "java/lang/IndexOutOfBoundsException", Cond.methodLink RL 21 yX0_blame, Cond.instanceMethod yX0_blame, Cond.selects RX0 yX0_blame yX0_blame, Cond.code yX0_blame cX0_blame 4 (some .int), Cond.methodLink RX0 60 yX0_requireAstronomer, Cond.instanceMethod yX0_requireAstronomer, Cond.selects RX0 yX0_requireAstronomer yX0_requireAstronomer, Cond.code yX0_requireAstronomer cX0_requireAstronomer 2 none, Cond.classLink RX0 187 "java/lang/IndexOutOfBoundsException", Cond.initialized "java/lang/IndexOutOfBoundsException", Cond.methodLink RX0 64 yX0_requireSet]
def wsL_law0_r5 : List Cond := [Cond.instanceMethod yX0_requireSet, Cond.selects RX0 yX0_requireSet yX0_requireSet, Cond.code yX0_requireSet cX0_requireSet 2 none, Cond.methodLink RX0 111 yX0_allThings, Cond.instanceMethod yX0_allThings, Cond.selects RX0 yX0_allThings yX0_allThings, Cond.code yX0_allThings cX0_allThings 1 (some .int), Cond.methodLink RL 97 yX1_blame, Cond.instanceMethod yX1_blame, Cond.selects RX1 yX1_blame yX1_blame, Cond.code yX1_blame cX1_blame 4 (some .int), Cond.methodLink RX1 67 yX1_isAstronomer, Cond.instanceMethod yX1_isAstronomer, Cond.selects RX1 yX1_isAstronomer yX1_isAstronomer, Cond.code yX1_isAstronomer cX1_isAstronomer 2 (some .boolean), Cond.methodLink RX1 47 yX1_all, Cond.instanceMethod yX1_all, Cond.selects RX1 yX1_all yX1_all, Cond.code yX1_all cX1_all 1 (some .int), Cond.methodLink RX1 71 yX1_think, Cond.instanceMethod yX1_think, Cond.selects RX1 yX1_think yX1_think, Cond.code yX1_think cX1_think 3 none, Cond.methodLink RL 98 yL_writeDown]
def wsL_law0_r6 : List Cond := [Cond.static yL_writeDown, Cond.codeWith yL_writeDown cL_writeDown 5 (some .int) [(0, 10, 13, 19), (0, 10, 17, 13)], Cond.methodLink RL 27 yX0_writeDown, Cond.instanceMethod yX0_writeDown, Cond.selects RX0 yX0_writeDown yX0_writeDown, Cond.code yX0_writeDown cX0_writeDown 4 (some .int), Cond.methodLink RX0 67 yX0_requireUsableSet, Cond.instanceMethod yX0_requireUsableSet, Cond.selects RX0 yX0_requireUsableSet yX0_requireUsableSet, Cond.code yX0_requireUsableSet cX0_requireUsableSet 2 none, Cond.methodLink RX0 70 yX0_requireRoomForNight, Cond.instanceMethod yX0_requireRoomForNight, Cond.selects RX0 yX0_requireRoomForNight yX0_requireRoomForNight, Cond.code yX0_requireRoomForNight cX0_requireRoomForNight 1 none, Cond.methodLink RX0 73 yX0_countMisses, Cond.instanceMethod yX0_countMisses, Cond.selects RX0 yX0_countMisses yX0_countMisses, Cond.code yX0_countMisses cX0_countMisses 5 none, Cond.methodLink RX0 139 yX0_explains, Cond.static yX0_explains, Cond.code yX0_explains cX0_explains 3 (some .boolean), Cond.methodLink RX0 77 yX0_letAstronomersSee, Cond.instanceMethod yX0_letAstronomersSee, Cond.selects RX0 yX0_letAstronomersSee yX0_letAstronomersSee]
def wsL_law0_r7 : List Cond := [Cond.code yX0_letAstronomersSee cX0_letAstronomersSee 6 (some .int), Cond.methodLink RX0 171 yX0_simplest, Cond.instanceMethod yX0_simplest, Cond.selects RX0 yX0_simplest yX0_simplest, Cond.code yX0_simplest cX0_simplest 4 (some .int), Cond.methodLink RX0 105 yX0_missesOf, Cond.instanceMethod yX0_missesOf, Cond.selects RX0 yX0_missesOf yX0_missesOf, Cond.code yX0_missesOf cX0_missesOf 2 (some .int), Cond.methodLink RX0 114 yJ6_bitCount_0f7a4, Cond.static yJ6_bitCount_0f7a4, Cond.initialized RJ6, Cond.code yJ6_bitCount_0f7a4 cJ6_bitCount_0f7a4 1 (some .int), Cond.constant RJ6 265 (1431655765), Cond.constant RJ6 266 (858993459), Cond.constant RJ6 267 (252645135), Cond.methodLink RL 101 yX1_writeDown, Cond.instanceMethod yX1_writeDown, Cond.selects RX1 yX1_writeDown yX1_writeDown, Cond.code yX1_writeDown cX1_writeDown 6 (some .int), Cond.fieldLink RX1 37 "SmudgedStarModel" "nights" "I", Cond.fieldLink RX1 82 "SmudgedStarModel" "changes" "I", Cond.methodLink RX1 75 yX1_put, Cond.instanceMethod yX1_put]
def wsL_law0_r8 : List Cond := [Cond.selects RX1 yX1_put yX1_put, Cond.code yX1_put cX1_put 3 none, Cond.methodLink RX1 79 yX1_fewest, Cond.instanceMethod yX1_fewest, Cond.selects RX1 yX1_fewest yX1_fewest, Cond.code yX1_fewest cX1_fewest 3 (some .int), Cond.methodLink RX1 51 yX1_unexplained, Cond.instanceMethod yX1_unexplained, Cond.selects RX1 yX1_unexplained yX1_unexplained, Cond.code yX1_unexplained cX1_unexplained 4 (some .int), Cond.methodLink RX1 43 yX1_explains, Cond.static yX1_explains, Cond.code yX1_explains cX1_explains 3 (some .boolean), Cond.methodLink RX1 55 yJ6_bitCount_0f7a4, Cond.methodLink RL 102 yL_strike, Cond.static yL_strike, Cond.codeWith yL_strike cL_strike 4 (some .int) [(0, 9, 12, 25)], Cond.methodLink RL 31 yX0_strike, Cond.instanceMethod yX0_strike, Cond.selects RX0 yX0_strike yX0_strike, Cond.code yX0_strike cX0_strike 3 (some .int), Cond.methodLink RX0 81 yX0_requireNight, Cond.instanceMethod yX0_requireNight, Cond.selects RX0 yX0_requireNight yX0_requireNight]
def wsL_law0_r9 : List Cond := [Cond.code yX0_requireNight cX0_requireNight 2 none, Cond.methodLink RL 104 yX1_strike, Cond.instanceMethod yX1_strike, Cond.selects RX1 yX1_strike yX1_strike, Cond.code yX1_strike cX1_strike 3 (some .int), Cond.methodLink RX1 85 yX1_isNight, Cond.instanceMethod yX1_isNight, Cond.selects RX1 yX1_isNight yX1_isNight, Cond.code yX1_isNight cX1_isNight 2 (some .boolean), Cond.methodLink RL 105 yX0_things, Cond.instanceMethod yX0_things, Cond.selects RX0 yX0_things yX0_things, Cond.code yX0_things cX0_things 1 (some .int), Cond.methodLink RL 108 yX1_things, Cond.instanceMethod yX1_things, Cond.selects RX1 yX1_things yX1_things, Cond.code yX1_things cX1_things 1 (some .int), Cond.methodLink RX1 88 yX1_ok, Cond.instanceMethod yX1_ok, Cond.selects RX1 yX1_ok yX1_ok, Cond.code yX1_ok cX1_ok 2 (some .int), Cond.methodLink RL 109 yL_nightsWith, Cond.static yL_nightsWith, Cond.codeWith yL_nightsWith cL_nightsWith 4 (some .int) [(0, 9, 12, 25)]]
def wsL_law0_r10 : List Cond := [Cond.methodLink RL 34 yX0_nightsWith, Cond.instanceMethod yX0_nightsWith, Cond.selects RX0 yX0_nightsWith yX0_nightsWith, Cond.code yX0_nightsWith cX0_nightsWith 4 (some .int), Cond.methodLink RX0 84 yX0_requireThing, Cond.instanceMethod yX0_requireThing, Cond.selects RX0 yX0_requireThing yX0_requireThing, Cond.code yX0_requireThing cX0_requireThing 2 none, Cond.methodLink RX0 87 yX0_holds, Cond.static yX0_holds, Cond.code yX0_holds cX0_holds 2 (some .boolean), Cond.methodLink RX0 95 yX0_setOf, Cond.static yX0_setOf, Cond.code yX0_setOf cX0_setOf 1 (some .int), Cond.methodLink RL 111 yX1_nightsWith, Cond.instanceMethod yX1_nightsWith, Cond.selects RX1 yX1_nightsWith yX1_nightsWith, Cond.code yX1_nightsWith cX1_nightsWith 2 (some .int), Cond.methodLink RX1 91 yX1_isThing, Cond.instanceMethod yX1_isThing, Cond.selects RX1 yX1_isThing yX1_isThing, Cond.code yX1_isThing cX1_isThing 2 (some .boolean), Cond.methodLink RX1 94 yX1_nightsOf, Cond.instanceMethod yX1_nightsOf]
def wsL_law0_r11 : List Cond := [Cond.selects RX1 yX1_nightsOf yX1_nightsOf, Cond.code yX1_nightsOf cX1_nightsOf 5 (some .int), Cond.methodLink RX1 60 yX1_has, Cond.static yX1_has, Cond.code yX1_has cX1_has 2 (some .boolean), Cond.methodLink RL 112 yL_smudgesWith, Cond.static yL_smudgesWith, Cond.codeWith yL_smudgesWith cL_smudgesWith 4 (some .int) [(0, 9, 12, 25)], Cond.methodLink RL 37 yX0_smudgesWith, Cond.instanceMethod yX0_smudgesWith, Cond.selects RX0 yX0_smudgesWith yX0_smudgesWith, Cond.code yX0_smudgesWith cX0_smudgesWith 4 (some .int), Cond.methodLink RL 114 yX1_smudgesWith, Cond.instanceMethod yX1_smudgesWith, Cond.selects RX1 yX1_smudgesWith yX1_smudgesWith, Cond.code yX1_smudgesWith cX1_smudgesWith 2 (some .int), Cond.methodLink RL 115 yL_isCleared, Cond.static yL_isCleared, Cond.codeWith yL_isCleared cL_isCleared 4 (some .int) [(0, 16, 19, 25)], Cond.methodLink RL 40 yX0_isCleared, Cond.instanceMethod yX0_isCleared, Cond.selects RX0 yX0_isCleared yX0_isCleared, Cond.code yX0_isCleared cX0_isCleared 2 (some .boolean), Cond.methodLink RX0 91 yX0_clearedThings]
def wsL_law0_r12 : List Cond := [Cond.instanceMethod yX0_clearedThings, Cond.selects RX0 yX0_clearedThings yX0_clearedThings, Cond.code yX0_clearedThings cX0_clearedThings 3 (some .int), Cond.methodLink RL 117 yX1_isCleared, Cond.instanceMethod yX1_isCleared, Cond.selects RX1 yX1_isCleared yX1_isCleared, Cond.code yX1_isCleared cX1_isCleared 2 (some .boolean), Cond.methodLink RX1 98 yX1_cleared, Cond.instanceMethod yX1_cleared, Cond.selects RX1 yX1_cleared yX1_cleared, Cond.code yX1_cleared cX1_cleared 3 (some .int), Cond.methodLink RX1 101 yX1_isNot, Cond.instanceMethod yX1_isNot, Cond.selects RX1 yX1_isNot yX1_isNot, Cond.code yX1_isNot cX1_isNot 2 (some .boolean), Cond.methodLink RL 118 yL_isProved, Cond.static yL_isProved, Cond.codeWith yL_isProved cL_isProved 4 (some .int) [(0, 16, 19, 25)], Cond.methodLink RL 44 yX0_isProved, Cond.instanceMethod yX0_isProved, Cond.selects RX0 yX0_isProved yX0_isProved, Cond.code yX0_isProved cX0_isProved 5 (some .boolean), Cond.methodLink RL 120 yX1_isProved, Cond.instanceMethod yX1_isProved]
def wsL_law0_r13 : List Cond := [Cond.selects RX1 yX1_isProved yX1_isProved, Cond.code yX1_isProved cX1_isProved 2 (some .boolean), Cond.methodLink RX1 104 yX1_proved, Cond.instanceMethod yX1_proved, Cond.selects RX1 yX1_proved yX1_proved, Cond.code yX1_proved cX1_proved 4 (some .boolean), Cond.methodLink RL 121 yL_setsWith, Cond.static yL_setsWith, Cond.codeWith yL_setsWith cL_setsWith 4 (some .int) [(0, 9, 12, 25)], Cond.methodLink RL 47 yX0_setsWith, Cond.instanceMethod yX0_setsWith, Cond.selects RX0 yX0_setsWith yX0_setsWith, Cond.code yX0_setsWith cX0_setsWith 2 (some .int), Cond.methodLink RX0 99 yX0_explanationsMeeting, Cond.instanceMethod yX0_explanationsMeeting, Cond.selects RX0 yX0_explanationsMeeting yX0_explanationsMeeting, Cond.code yX0_explanationsMeeting cX0_explanationsMeeting 4 (some .int), Cond.methodLink RL 123 yX1_setsWith, Cond.instanceMethod yX1_setsWith, Cond.selects RX1 yX1_setsWith yX1_setsWith, Cond.code yX1_setsWith cX1_setsWith 2 (some .int), Cond.methodLink RX1 107 yX1_withThing, Cond.instanceMethod yX1_withThing, Cond.selects RX1 yX1_withThing yX1_withThing]
def wsL_law0_r14 : List Cond := [Cond.code yX1_withThing cX1_withThing 4 (some .int), Cond.methodLink RL 124 yX0_nights, Cond.instanceMethod yX0_nights, Cond.selects RX0 yX0_nights yX0_nights, Cond.code yX0_nights cX0_nights 1 (some .int), Cond.methodLink RL 127 yX1_nights, Cond.instanceMethod yX1_nights, Cond.selects RX1 yX1_nights yX1_nights, Cond.code yX1_nights cX1_nights 1 (some .int), Cond.methodLink RL 128 yX0_smudges, Cond.instanceMethod yX0_smudges, Cond.selects RX0 yX0_smudges yX0_smudges, Cond.code yX0_smudges cX0_smudges 3 (some .int), Cond.methodLink RL 131 yX1_smudges, Cond.instanceMethod yX1_smudges, Cond.selects RX1 yX1_smudges yX1_smudges, Cond.code yX1_smudges cX1_smudges 1 (some .int), Cond.methodLink RX1 110 yX1_smudgesNow, Cond.instanceMethod yX1_smudgesNow, Cond.selects RX1 yX1_smudgesNow yX1_smudgesNow, Cond.code yX1_smudgesNow cX1_smudgesNow 3 (some .int), Cond.methodLink RL 132 yL_usedIn, Cond.static yL_usedIn, Cond.codeWith yL_usedIn cL_usedIn 4 (some .int) [(0, 9, 12, 25)]]
def wsL_law0_r15 : List Cond := [Cond.methodLink RL 50 yX0_usedIn, Cond.instanceMethod yX0_usedIn, Cond.selects RX0 yX0_usedIn yX0_usedIn, Cond.code yX0_usedIn cX0_usedIn 2 (some .int), Cond.methodLink RL 134 yX1_usedIn, Cond.instanceMethod yX1_usedIn, Cond.selects RX1 yX1_usedIn yX1_usedIn, Cond.code yX1_usedIn cX1_usedIn 2 (some .int), Cond.methodLink RL 135 yL_isSmudged, Cond.static yL_isSmudged, Cond.codeWith yL_isSmudged cL_isSmudged 4 (some .int) [(0, 16, 19, 25)], Cond.methodLink RL 53 yX0_isSmudged, Cond.instanceMethod yX0_isSmudged, Cond.selects RX0 yX0_isSmudged yX0_isSmudged, Cond.code yX0_isSmudged cX0_isSmudged 2 (some .boolean), Cond.methodLink RL 137 yX1_isSmudged, Cond.instanceMethod yX1_isSmudged, Cond.selects RX1 yX1_isSmudged yX1_isSmudged, Cond.code yX1_isSmudged cX1_isSmudged 2 (some .boolean), Cond.methodLink RL 138 yX0_agree, Cond.instanceMethod yX0_agree, Cond.selects RX0 yX0_agree yX0_agree, Cond.code yX0_agree cX0_agree 1 (some .boolean), Cond.methodLink RX0 102 yX0_nightsToDoubt]
def wsL_law0_r16 : List Cond := [Cond.instanceMethod yX0_nightsToDoubt, Cond.selects RX0 yX0_nightsToDoubt yX0_nightsToDoubt, Cond.code yX0_nightsToDoubt cX0_nightsToDoubt 3 (some .int), Cond.methodLink RX0 123 Lib.Math.min.name, Cond.static Lib.Math.min.name, Cond.initialized "java/lang/Math", Cond.code Lib.Math.min.name Lib.Math.min.code 2 (some .int), Cond.methodLink RL 142 yX1_agree, Cond.instanceMethod yX1_agree, Cond.selects RX1 yX1_agree yX1_agree, Cond.code yX1_agree cX1_agree 1 (some .boolean), Cond.methodLink RL 143 yX0_astronomers, Cond.instanceMethod yX0_astronomers, Cond.selects RX0 yX0_astronomers yX0_astronomers, Cond.code yX0_astronomers cX0_astronomers 1 (some .int), Cond.methodLink RL 146 yX1_astronomers, Cond.instanceMethod yX1_astronomers, Cond.selects RX1 yX1_astronomers yX1_astronomers, Cond.code yX1_astronomers cX1_astronomers 1 (some .int), Cond.methodLink RL 147 yL_blamedBy, Cond.static yL_blamedBy, Cond.codeWith yL_blamedBy cL_blamedBy 4 (some .int) [(0, 9, 12, 25)], Cond.methodLink RL 56 yX0_blamedBy, Cond.instanceMethod yX0_blamedBy]
def wsL_law0_r17 : List Cond := [Cond.selects RX0 yX0_blamedBy yX0_blamedBy, Cond.code yX0_blamedBy cX0_blamedBy 2 (some .int), Cond.methodLink RL 149 yX1_blamedBy, Cond.instanceMethod yX1_blamedBy, Cond.selects RX1 yX1_blamedBy yX1_blamedBy, Cond.code yX1_blamedBy cX1_blamedBy 2 (some .int), Cond.methodLink RL 150 yL_stubbornnessOf, Cond.static yL_stubbornnessOf, Cond.codeWith yL_stubbornnessOf cL_stubbornnessOf 4 (some .int) [(0, 9, 12, 25)], Cond.methodLink RL 59 yX0_stubbornnessOf, Cond.instanceMethod yX0_stubbornnessOf, Cond.selects RX0 yX0_stubbornnessOf yX0_stubbornnessOf, Cond.code yX0_stubbornnessOf cX0_stubbornnessOf 2 (some .int), Cond.methodLink RL 152 yX1_stubbornnessOf, Cond.instanceMethod yX1_stubbornnessOf, Cond.selects RX1 yX1_stubbornnessOf yX1_stubbornnessOf, Cond.code yX1_stubbornnessOf cX1_stubbornnessOf 2 (some .int), Cond.methodLink RL 153 yL_unexplainedBy, Cond.static yL_unexplainedBy, Cond.codeWith yL_unexplainedBy cL_unexplainedBy 4 (some .int) [(0, 9, 12, 25)], Cond.methodLink RL 62 yX0_unexplainedBy, Cond.instanceMethod yX0_unexplainedBy, Cond.selects RX0 yX0_unexplainedBy yX0_unexplainedBy, Cond.code yX0_unexplainedBy cX0_unexplainedBy 2 (some .int)]
def wsL_law0_r18 : List Cond := [Cond.methodLink RL 155 yX1_unexplainedBy, Cond.instanceMethod yX1_unexplainedBy, Cond.selects RX1 yX1_unexplainedBy yX1_unexplainedBy, Cond.code yX1_unexplainedBy cX1_unexplainedBy 2 (some .int), Cond.methodLink RL 156 yL_votesFor, Cond.static yL_votesFor, Cond.codeWith yL_votesFor cL_votesFor 4 (some .int) [(0, 9, 12, 25)], Cond.methodLink RL 65 yX0_votesFor, Cond.instanceMethod yX0_votesFor, Cond.selects RX0 yX0_votesFor yX0_votesFor, Cond.code yX0_votesFor cX0_votesFor 4 (some .int), Cond.methodLink RL 158 yX1_votesFor, Cond.instanceMethod yX1_votesFor, Cond.selects RX1 yX1_votesFor yX1_votesFor, Cond.code yX1_votesFor cX1_votesFor 2 (some .int), Cond.methodLink RX1 113 yX1_votes, Cond.instanceMethod yX1_votes, Cond.selects RX1 yX1_votes yX1_votes, Cond.code yX1_votes cX1_votes 4 (some .int), Cond.methodLink RL 159 yX0_vote, Cond.instanceMethod yX0_vote, Cond.selects RX0 yX0_vote yX0_vote, Cond.code yX0_vote cX0_vote 3 (some .int), Cond.methodLink RX0 108 yX0_votesFor]
def wsL_law0_r19 : List Cond := [Cond.methodLink RL 162 yX1_vote, Cond.instanceMethod yX1_vote, Cond.selects RX1 yX1_vote yX1_vote, Cond.code yX1_vote cX1_vote 1 (some .int), Cond.methodLink RX1 116 yX1_voted, Cond.instanceMethod yX1_voted, Cond.selects RX1 yX1_voted yX1_voted, Cond.code yX1_voted cX1_voted 3 (some .int), Cond.methodLink RL 163 yX0_changesOfMind, Cond.instanceMethod yX0_changesOfMind, Cond.selects RX0 yX0_changesOfMind yX0_changesOfMind, Cond.code yX0_changesOfMind cX0_changesOfMind 1 (some .int), Cond.methodLink RL 166 yX1_changesOfMind, Cond.instanceMethod yX1_changesOfMind, Cond.selects RX1 yX1_changesOfMind yX1_changesOfMind, Cond.code yX1_changesOfMind cX1_changesOfMind 1 (some .int), Cond.methodLink RL 167 yL_explainsAll, Cond.static yL_explainsAll, Cond.codeWith yL_explainsAll cL_explainsAll 4 (some .int) [(0, 16, 19, 19)], Cond.methodLink RL 68 yX0_explainsAll, Cond.instanceMethod yX0_explainsAll, Cond.selects RX0 yX0_explainsAll yX0_explainsAll, Cond.code yX0_explainsAll cX0_explainsAll 2 (some .boolean), Cond.methodLink RL 169 yX1_explainsAll]
def wsL_law0_r20 : List Cond := [Cond.instanceMethod yX1_explainsAll, Cond.selects RX1 yX1_explainsAll yX1_explainsAll, Cond.code yX1_explainsAll cX1_explainsAll 2 (some .boolean), Cond.methodLink RL 170 yX0_explanations, Cond.instanceMethod yX0_explanations, Cond.selects RX0 yX0_explanations yX0_explanations, Cond.code yX0_explanations cX0_explanations 3 (some .int), Cond.methodLink RL 173 yX1_explanations, Cond.instanceMethod yX1_explanations, Cond.selects RX1 yX1_explanations yX1_explanations, Cond.code yX1_explanations cX1_explanations 1 (some .int), Cond.methodLink RX1 119 yX1_explaining, Cond.instanceMethod yX1_explaining, Cond.selects RX1 yX1_explaining yX1_explaining, Cond.code yX1_explaining cX1_explaining 3 (some .int), Cond.methodLink RL 174 yX0_simplest, Cond.methodLink RL 177 yX1_simplest, Cond.instanceMethod yX1_simplest, Cond.selects RX1 yX1_simplest yX1_simplest, Cond.code yX1_simplest cX1_simplest 1 (some .int), Cond.methodLink RL 178 yX0_surelyToBlame, Cond.instanceMethod yX0_surelyToBlame, Cond.selects RX0 yX0_surelyToBlame yX0_surelyToBlame, Cond.code yX0_surelyToBlame cX0_surelyToBlame 3 (some .int)]
def wsL_law0_r21 : List Cond := [Cond.methodLink RX0 119 yX0_agree, Cond.methodLink RL 181 yX1_surelyToBlame, Cond.instanceMethod yX1_surelyToBlame, Cond.selects RX1 yX1_surelyToBlame yX1_surelyToBlame, Cond.code yX1_surelyToBlame cX1_surelyToBlame 1 (some .int), Cond.methodLink RX1 122 yX1_inAll, Cond.instanceMethod yX1_inAll, Cond.selects RX1 yX1_inAll yX1_inAll, Cond.code yX1_inAll cX1_inAll 3 (some .int), Cond.methodLink RL 182 yX0_nightsToDoubt, Cond.methodLink RL 185 yX1_nightsToDoubt, Cond.instanceMethod yX1_nightsToDoubt, Cond.selects RX1 yX1_nightsToDoubt yX1_nightsToDoubt, Cond.code yX1_nightsToDoubt cX1_nightsToDoubt 3 (some .int), Cond.methodLink RX1 125 Lib.Math.min.name, Cond.methodLink RL 186 yL_leftIfSmudged, Cond.static yL_leftIfSmudged, Cond.codeWith yL_leftIfSmudged cL_leftIfSmudged 4 (some .int) [(0, 9, 12, 19)], Cond.methodLink RL 71 yX0_leftIfSmudged, Cond.instanceMethod yX0_leftIfSmudged, Cond.selects RX0 yX0_leftIfSmudged yX0_leftIfSmudged, Cond.code yX0_leftIfSmudged cX0_leftIfSmudged 2 (some .int), Cond.methodLink RL 188 yX1_leftIfSmudged, Cond.instanceMethod yX1_leftIfSmudged]
def wsL_law0_r22 : List Cond := [Cond.selects RX1 yX1_leftIfSmudged yX1_leftIfSmudged, Cond.code yX1_leftIfSmudged cX1_leftIfSmudged 2 (some .int), Cond.methodLink RX1 131 yX1_meeting, Cond.instanceMethod yX1_meeting, Cond.selects RX1 yX1_meeting yX1_meeting, Cond.code yX1_meeting cX1_meeting 4 (some .int), Cond.methodLink RL 189 yX0_bestNight, Cond.instanceMethod yX0_bestNight, Cond.selects RX0 yX0_bestNight yX0_bestNight, Cond.code yX0_bestNight cX0_bestNight 8 (some .int), Cond.methodLink RX0 132 Lib.Math.max.name, Cond.static Lib.Math.max.name, Cond.code Lib.Math.max.name Lib.Math.max.code 2 (some .int), Cond.methodLink RX0 129 yX0_explanations, Cond.methodLink RL 192 yX1_bestNight, Cond.instanceMethod yX1_bestNight, Cond.selects RX1 yX1_bestNight yX1_bestNight, Cond.code yX1_bestNight cX1_bestNight 7 (some .int), Cond.methodLink RX1 134 Lib.Math.max.name, Cond.methodLink RL 193 yL_wouldChange, Cond.static yL_wouldChange, Cond.codeWith yL_wouldChange cL_wouldChange 5 (some .int) [(0, 10, 13, 19), (0, 10, 17, 13)], Cond.methodLink RL 74 yX0_wouldChange, Cond.instanceMethod yX0_wouldChange]
def wsL_law0_r23 : List Cond := [Cond.selects RX0 yX0_wouldChange yX0_wouldChange, Cond.code yX0_wouldChange cX0_wouldChange 5 (some .int), Cond.methodLink RX0 135 yX0_wouldAgreeWith, Cond.instanceMethod yX0_wouldAgreeWith, Cond.selects RX0 yX0_wouldAgreeWith yX0_wouldAgreeWith, Cond.code yX0_wouldAgreeWith cX0_wouldAgreeWith 4 (some .boolean), Cond.methodLink RL 195 yX1_wouldChange, Cond.instanceMethod yX1_wouldChange, Cond.selects RX1 yX1_wouldChange yX1_wouldChange, Cond.code yX1_wouldChange cX1_wouldChange 6 (some .int), Cond.methodLink RL 196 yX0_meanBlame, Cond.instanceMethod yX0_meanBlame, Cond.selects RX0 yX0_meanBlame yX0_meanBlame, Cond.code yX0_meanBlame cX0_meanBlame 3 (some .double), Cond.methodLink RL 200 yX1_meanBlame, Cond.instanceMethod yX1_meanBlame, Cond.selects RX1 yX1_meanBlame yX1_meanBlame, Cond.code yX1_meanBlame cX1_meanBlame 3 (some .double), Cond.methodLink RL 201 yX0_digest, Cond.instanceMethod yX0_digest, Cond.selects RX0 yX0_digest yX0_digest, Cond.code yX0_digest cX0_digest 3 (some .long), Cond.constantLong RX0 143 (1951), Cond.methodLink RX0 145 yX0_things]
def wsL_law0_r24 : List Cond := [Cond.methodLink RX0 148 yX0_mixed, Cond.static yX0_mixed, Cond.code yX0_mixed cX0_mixed 4 (some .long), Cond.constantLong RX0 202 (31), Cond.methodLink RX0 152 yX0_nights, Cond.methodLink RX0 155 yX0_smudges, Cond.methodLink RX0 158 yX0_oneIf, Cond.static yX0_oneIf, Cond.code yX0_oneIf cX0_oneIf 1 (some .long), Cond.methodLink RX0 162 yX0_astronomers, Cond.methodLink RX0 165 yX0_vote, Cond.methodLink RX0 168 yX0_changesOfMind, Cond.methodLink RX0 174 yX0_surelyToBlame, Cond.methodLink RX0 177 yX0_mixedWithThings, Cond.instanceMethod yX0_mixedWithThings, Cond.selects RX0 yX0_mixedWithThings yX0_mixedWithThings, Cond.code yX0_mixedWithThings cX0_mixedWithThings 6 (some .long), Cond.methodLink RX0 204 yX0_nightsWith, Cond.methodLink RX0 207 yX0_smudgesWith, Cond.methodLink RX0 210 yX0_isCleared, Cond.methodLink RX0 214 yX0_isProved, Cond.methodLink RX0 217 yX0_setsWith, Cond.methodLink RX0 181 yX0_mixedWithNights, Cond.instanceMethod yX0_mixedWithNights]
def wsL_law0_r25 : List Cond := [Cond.selects RX0 yX0_mixedWithNights yX0_mixedWithNights, Cond.code yX0_mixedWithNights cX0_mixedWithNights 6 (some .long), Cond.methodLink RX0 220 yX0_usedIn, Cond.methodLink RX0 223 yX0_isSmudged, Cond.methodLink RX0 184 yX0_mixedWithAstronomers, Cond.instanceMethod yX0_mixedWithAstronomers, Cond.selects RX0 yX0_mixedWithAstronomers yX0_mixedWithAstronomers, Cond.code yX0_mixedWithAstronomers cX0_mixedWithAstronomers 6 (some .long), Cond.methodLink RX0 226 yX0_blamedBy, Cond.methodLink RX0 229 yX0_stubbornnessOf, Cond.methodLink RX0 232 yX0_unexplainedBy, Cond.methodLink RL 205 yX1_digest, Cond.instanceMethod yX1_digest, Cond.selects RX1 yX1_digest yX1_digest, Cond.code yX1_digest cX1_digest 10 (some .long), Cond.constantLong RX1 141 (1951), Cond.constantLong RX1 143 (31), Cond.methodLink RX1 137 yX1_one, Cond.static yX1_one, Cond.code yX1_one cX1_one 1 (some .int)]
def wsL_law0 : List Cond := (wsL_law0_r1 ++ (wsL_law0_r2 ++ (wsL_law0_r3 ++ (wsL_law0_r4 ++ (wsL_law0_r5 ++ (wsL_law0_r6 ++ (wsL_law0_r7 ++ (wsL_law0_r8 ++ (wsL_law0_r9 ++ (wsL_law0_r10 ++ (wsL_law0_r11 ++ (wsL_law0_r12 ++ (wsL_law0_r13 ++ (wsL_law0_r14 ++ (wsL_law0_r15 ++ (wsL_law0_r16 ++ (wsL_law0_r17 ++ (wsL_law0_r18 ++ (wsL_law0_r19 ++ (wsL_law0_r20 ++ (wsL_law0_r21 ++ (wsL_law0_r22 ++ (wsL_law0_r23 ++ (wsL_law0_r24 ++ wsL_law0_r25)))))))))))))))))))))))) ++ wsX00 ++ wsX10 ++ ([] : List Cond)
def wsL_law : List Cond := wsL_law0 ++ (vx_atS RX0 46 "java/lang/IllegalStateException" ["java/lang/RuntimeException", "java/lang/Exception"]).filter goodWord ++ (vx_atS RX0 53 "java/lang/IllegalArgumentException" ["java/lang/RuntimeException", "java/lang/Exception"]).filter goodWord ++ (vx_atS RX0 191 "java/lang/IndexOutOfBoundsException" ["java/lang/RuntimeException", "java/lang/Exception"]).filter goodWord
end
section
theorem lw_q_r1_0 : (Cond.classLink RL 8 RX0 : Cond) ∈ lw_tbl := List.mem_of_getElem? (i := 50) (by decide +kernel)
theorem lw_q_r1_1 : (Cond.instantiable RX0 10 : Cond) ∈ lw_tbl := List.mem_of_getElem? (i := 51) (by decide +kernel)
theorem lw_q_r1_2 : (Cond.initialized RX0 : Cond) ∈ lw_tbl := List.mem_of_getElem? (i := 40) (by decide +kernel)
theorem lw_q_r1_3 : (Cond.classLink RL 78 RX1 : Cond) ∈ lw_tbl := List.mem_of_getElem? (i := 508) (by decide +kernel)
theorem lw_q_r1_4 : (Cond.instantiable RX1 10 : Cond) ∈ lw_tbl := List.mem_of_getElem? (i := 509) (by decide +kernel)
theorem lw_q_r1_5 : (Cond.initialized RX1 : Cond) ∈ lw_tbl := List.mem_of_getElem? (i := 41) (by decide +kernel)
theorem lw_q_r1_6 : (Cond.arrayClass .long : Cond) ∈ lw_tbl := List.mem_of_getElem? (i := 782) (by decide +kernel)
theorem lw_q_r1_7 : (Cond.methodLink RL 77 yX0_init : Cond) ∈ lw_tbl := List.mem_of_getElem? (i := 52) (by decide +kernel)
theorem lw_q_r1_8 : (Cond.instanceMethod yX0_init : Cond) ∈ lw_tbl := List.mem_of_getElem? (i := 53) (by decide +kernel)
theorem lw_q_r1_9 : (Cond.code yX0_init cX0_init 1 none : Cond) ∈ lw_tbl := List.mem_of_getElem? (i := 54) (by decide +kernel)
theorem lw_q_r1_10 : (Cond.methodLink RX0 3 objectInit : Cond) ∈ lw_tbl := List.mem_of_getElem? (i := 55) (by decide +kernel)
theorem lw_q_r1_11 : (Cond.instanceMethod objectInit : Cond) ∈ lw_tbl := List.mem_of_getElem? (i := 56) (by decide +kernel)
theorem lw_q_r1_12 : (Cond.code objectInit ⟨#[0xb1]⟩ 1 none : Cond) ∈ lw_tbl := List.mem_of_getElem? (i := 57) (by decide +kernel)
theorem lw_q_r1_13 : (Cond.fieldLink RX0 9 "SmudgedStar" "thingCount" "I" : Cond) ∈ lw_tbl := List.mem_of_getElem? (i := 58) (by decide +kernel)
theorem lw_q_r1_14 : (Cond.fieldLink RX0 13 "SmudgedStar" "nightCount" "I" : Cond) ∈ lw_tbl := List.mem_of_getElem? (i := 59) (by decide +kernel)
theorem lw_q_r1_15 : (Cond.arrayClass .int : Cond) ∈ lw_tbl := List.mem_of_getElem? (i := 89) (by decide +kernel)
theorem lw_q_r1_16 : (Cond.fieldLink RX0 16 "SmudgedStar" "usedThings" "[I" : Cond) ∈ lw_tbl := List.mem_of_getElem? (i := 60) (by decide +kernel)
theorem lw_q_r1_17 : (Cond.arrayClass .boolean : Cond) ∈ lw_tbl := List.mem_of_getElem? (i := 90) (by decide +kernel)
theorem lw_q_r1_18 : (Cond.fieldLink RX0 20 "SmudgedStar" "smudgeSeen" "[Z" : Cond) ∈ lw_tbl := List.mem_of_getElem? (i := 61) (by decide +kernel)
theorem lw_q_r1_19 : (Cond.fieldLink RX0 24 "SmudgedStar" "missedNights" "[I" : Cond) ∈ lw_tbl := List.mem_of_getElem? (i := 62) (by decide +kernel)
theorem lw_q_r1_20 : (Cond.fieldLink RX0 27 "SmudgedStar" "astronomerCount" "I" : Cond) ∈ lw_tbl := List.mem_of_getElem? (i := 63) (by decide +kernel)
theorem lw_q_r1_21 : (Cond.fieldLink RX0 30 "SmudgedStar" "blamedThings" "[I" : Cond) ∈ lw_tbl := List.mem_of_getElem? (i := 64) (by decide +kernel)
theorem lw_q_r1_22 : (Cond.fieldLink RX0 33 "SmudgedStar" "stubbornnessLeft" "[I" : Cond) ∈ lw_tbl := List.mem_of_getElem? (i := 65) (by decide +kernel)
theorem lw_q_r1_23 : (Cond.fieldLink RX0 36 "SmudgedStar" "stubbornnessAtFirst" "[I" : Cond) ∈ lw_tbl := List.mem_of_getElem? (i := 66) (by decide +kernel)
theorem lw_q_r1 : ∀ w ∈ wsL_law0_r1, w ∈ lw_tbl := List.forall_mem_cons.mpr ⟨lw_q_r1_0, List.forall_mem_cons.mpr ⟨lw_q_r1_1, List.forall_mem_cons.mpr ⟨lw_q_r1_2, List.forall_mem_cons.mpr ⟨lw_q_r1_3, List.forall_mem_cons.mpr ⟨lw_q_r1_4, List.forall_mem_cons.mpr ⟨lw_q_r1_5, List.forall_mem_cons.mpr ⟨lw_q_r1_6, List.forall_mem_cons.mpr ⟨lw_q_r1_7, List.forall_mem_cons.mpr ⟨lw_q_r1_8, List.forall_mem_cons.mpr ⟨lw_q_r1_9, List.forall_mem_cons.mpr ⟨lw_q_r1_10, List.forall_mem_cons.mpr ⟨lw_q_r1_11, List.forall_mem_cons.mpr ⟨lw_q_r1_12, List.forall_mem_cons.mpr ⟨lw_q_r1_13, List.forall_mem_cons.mpr ⟨lw_q_r1_14, List.forall_mem_cons.mpr ⟨lw_q_r1_15, List.forall_mem_cons.mpr ⟨lw_q_r1_16, List.forall_mem_cons.mpr ⟨lw_q_r1_17, List.forall_mem_cons.mpr ⟨lw_q_r1_18, List.forall_mem_cons.mpr ⟨lw_q_r1_19, List.forall_mem_cons.mpr ⟨lw_q_r1_20, List.forall_mem_cons.mpr ⟨lw_q_r1_21, List.forall_mem_cons.mpr ⟨lw_q_r1_22, List.forall_mem_cons.mpr ⟨lw_q_r1_23, fun _ h => absurd h List.not_mem_nil⟩⟩⟩⟩⟩⟩⟩⟩⟩⟩⟩⟩⟩⟩⟩⟩⟩⟩⟩⟩⟩⟩⟩⟩
theorem lw_q_r2_0 : (Cond.fieldLink RX0 39 "SmudgedStar" "mindsChanged" "I" : Cond) ∈ lw_tbl := List.mem_of_getElem? (i := 67) (by decide +kernel)
theorem lw_q_r2_1 : (Cond.methodLink RL 80 yX1_init : Cond) ∈ lw_tbl := List.mem_of_getElem? (i := 510) (by decide +kernel)
theorem lw_q_r2_2 : (Cond.instanceMethod yX1_init : Cond) ∈ lw_tbl := List.mem_of_getElem? (i := 511) (by decide +kernel)
theorem lw_q_r2_3 : (Cond.code yX1_init cX1_init 1 none : Cond) ∈ lw_tbl := List.mem_of_getElem? (i := 512) (by decide +kernel)
theorem lw_q_r2_4 : (Cond.methodLink RX1 1 objectInit : Cond) ∈ lw_tbl := List.mem_of_getElem? (i := 513) (by decide +kernel)
theorem lw_q_r2_5 : (Cond.fieldLink RX1 9 "SmudgedStarModel" "used" "[I" : Cond) ∈ lw_tbl := List.mem_of_getElem? (i := 517) (by decide +kernel)
theorem lw_q_r2_6 : (Cond.fieldLink RX1 13 "SmudgedStarModel" "smudged" "[Z" : Cond) ∈ lw_tbl := List.mem_of_getElem? (i := 518) (by decide +kernel)
theorem lw_q_r2_7 : (Cond.fieldLink RX1 17 "SmudgedStarModel" "first" "[I" : Cond) ∈ lw_tbl := List.mem_of_getElem? (i := 520) (by decide +kernel)
theorem lw_q_r2_8 : (Cond.fieldLink RX1 20 "SmudgedStarModel" "left" "[I" : Cond) ∈ lw_tbl := List.mem_of_getElem? (i := 521) (by decide +kernel)
theorem lw_q_r2_9 : (Cond.fieldLink RX1 23 "SmudgedStarModel" "blames" "[I" : Cond) ∈ lw_tbl := List.mem_of_getElem? (i := 522) (by decide +kernel)
theorem lw_q_r2_10 : (Cond.methodLink RL 81 yL_addThing : Cond) ∈ lw_tbl := List.mem_of_getElem? (i := 338) (by decide +kernel)
theorem lw_q_r2_11 : (Cond.static yL_addThing : Cond) ∈ lw_tbl := List.mem_of_getElem? (i := 339) (by decide +kernel)
theorem lw_q_r2_12 : (Cond.initialized RL : Cond) ∈ lw_tbl := List.mem_of_getElem? (i := 39) (by decide +kernel)
theorem lw_q_r2_13 : (Cond.codeWith yL_addThing cL_addThing 3 (some .int) [(0, 8, 11, 13)] : Cond) ∈ lw_tbl := List.mem_of_getElem? (i := 340) (by decide +kernel)
theorem lw_q_r2_14 : (Cond.classLink RL 13 "java/lang/IllegalStateException" : Cond) ∈ lw_tbl := List.mem_of_getElem? (i := 341) (by decide +kernel)
theorem lw_q_r2_15 : (Cond.methodLink RL 7 yX0_addThing : Cond) ∈ lw_tbl := List.mem_of_getElem? (i := 342) (by decide +kernel)
theorem lw_q_r2_16 : (Cond.instanceMethod yX0_addThing : Cond) ∈ lw_tbl := List.mem_of_getElem? (i := 343) (by decide +kernel)
theorem lw_q_r2_17 : (Cond.selects RX0 yX0_addThing yX0_addThing : Cond) ∈ lw_tbl := List.mem_of_getElem? (i := 344) (by decide +kernel)
theorem lw_q_r2_18 : (Cond.code yX0_addThing cX0_addThing 2 (some .int) : Cond) ∈ lw_tbl := List.mem_of_getElem? (i := 345) (by decide +kernel)
theorem lw_q_r2_19 : (Cond.classLink RX0 42 "java/lang/IllegalStateException" : Cond) ∈ lw_tbl := List.mem_of_getElem? (i := 346) (by decide +kernel)
theorem lw_q_r2_20 : (Cond.initialized "java/lang/IllegalStateException" : Cond) ∈ lw_tbl := List.mem_of_getElem? (i := 45) (by decide +kernel)
theorem lw_q_r2_21 : (Cond.methodLink RL 86 yX1_addThing : Cond) ∈ lw_tbl := List.mem_of_getElem? (i := 549) (by decide +kernel)
theorem lw_q_r2_22 : (Cond.instanceMethod yX1_addThing : Cond) ∈ lw_tbl := List.mem_of_getElem? (i := 550) (by decide +kernel)
theorem lw_q_r2_23 : (Cond.selects RX1 yX1_addThing yX1_addThing : Cond) ∈ lw_tbl := List.mem_of_getElem? (i := 551) (by decide +kernel)
theorem lw_q_r2 : ∀ w ∈ wsL_law0_r2, w ∈ lw_tbl := List.forall_mem_cons.mpr ⟨lw_q_r2_0, List.forall_mem_cons.mpr ⟨lw_q_r2_1, List.forall_mem_cons.mpr ⟨lw_q_r2_2, List.forall_mem_cons.mpr ⟨lw_q_r2_3, List.forall_mem_cons.mpr ⟨lw_q_r2_4, List.forall_mem_cons.mpr ⟨lw_q_r2_5, List.forall_mem_cons.mpr ⟨lw_q_r2_6, List.forall_mem_cons.mpr ⟨lw_q_r2_7, List.forall_mem_cons.mpr ⟨lw_q_r2_8, List.forall_mem_cons.mpr ⟨lw_q_r2_9, List.forall_mem_cons.mpr ⟨lw_q_r2_10, List.forall_mem_cons.mpr ⟨lw_q_r2_11, List.forall_mem_cons.mpr ⟨lw_q_r2_12, List.forall_mem_cons.mpr ⟨lw_q_r2_13, List.forall_mem_cons.mpr ⟨lw_q_r2_14, List.forall_mem_cons.mpr ⟨lw_q_r2_15, List.forall_mem_cons.mpr ⟨lw_q_r2_16, List.forall_mem_cons.mpr ⟨lw_q_r2_17, List.forall_mem_cons.mpr ⟨lw_q_r2_18, List.forall_mem_cons.mpr ⟨lw_q_r2_19, List.forall_mem_cons.mpr ⟨lw_q_r2_20, List.forall_mem_cons.mpr ⟨lw_q_r2_21, List.forall_mem_cons.mpr ⟨lw_q_r2_22, List.forall_mem_cons.mpr ⟨lw_q_r2_23, fun _ h => absurd h List.not_mem_nil⟩⟩⟩⟩⟩⟩⟩⟩⟩⟩⟩⟩⟩⟩⟩⟩⟩⟩⟩⟩⟩⟩⟩⟩
theorem lw_q_r3_0 : (Cond.code yX1_addThing cX1_addThing 1 (some .int) : Cond) ∈ lw_tbl := List.mem_of_getElem? (i := 552) (by decide +kernel)
theorem lw_q_r3_1 : (Cond.fieldLink RX1 26 "SmudgedStarModel" "thrown" "I" : Cond) ∈ lw_tbl := List.mem_of_getElem? (i := 514) (by decide +kernel)
theorem lw_q_r3_2 : (Cond.fieldLink RX1 30 "SmudgedStarModel" "things" "I" : Cond) ∈ lw_tbl := List.mem_of_getElem? (i := 515) (by decide +kernel)
theorem lw_q_r3_3 : (Cond.methodLink RX1 64 yX1_no : Cond) ∈ lw_tbl := List.mem_of_getElem? (i := 553) (by decide +kernel)
theorem lw_q_r3_4 : (Cond.instanceMethod yX1_no : Cond) ∈ lw_tbl := List.mem_of_getElem? (i := 555) (by decide +kernel)
theorem lw_q_r3_5 : (Cond.selects RX1 yX1_no yX1_no : Cond) ∈ lw_tbl := List.mem_of_getElem? (i := 18) (by decide +kernel)
theorem lw_q_r3_6 : (Cond.code yX1_no cX1_no 2 (some .int) : Cond) ∈ lw_tbl := List.mem_of_getElem? (i := 556) (by decide +kernel)
theorem lw_q_r3_7 : (Cond.methodLink RL 87 yX1_thrown : Cond) ∈ lw_tbl := List.mem_of_getElem? (i := 545) (by decide +kernel)
theorem lw_q_r3_8 : (Cond.instanceMethod yX1_thrown : Cond) ∈ lw_tbl := List.mem_of_getElem? (i := 546) (by decide +kernel)
theorem lw_q_r3_9 : (Cond.selects RX1 yX1_thrown yX1_thrown : Cond) ∈ lw_tbl := List.mem_of_getElem? (i := 547) (by decide +kernel)
theorem lw_q_r3_10 : (Cond.code yX1_thrown cX1_thrown 1 (some .int) : Cond) ∈ lw_tbl := List.mem_of_getElem? (i := 548) (by decide +kernel)
theorem lw_q_r3_11 : (Cond.methodLink RL 90 yL_addAstronomer : Cond) ∈ lw_tbl := List.mem_of_getElem? (i := 362) (by decide +kernel)
theorem lw_q_r3_12 : (Cond.static yL_addAstronomer : Cond) ∈ lw_tbl := List.mem_of_getElem? (i := 363) (by decide +kernel)
theorem lw_q_r3_13 : (Cond.codeWith yL_addAstronomer cL_addAstronomer 4 (some .int) [(0, 9, 12, 19), (0, 9, 15, 13)] : Cond) ∈ lw_tbl := List.mem_of_getElem? (i := 364) (by decide +kernel)
theorem lw_q_r3_14 : (Cond.classLink RL 19 "java/lang/IllegalArgumentException" : Cond) ∈ lw_tbl := List.mem_of_getElem? (i := 365) (by decide +kernel)
theorem lw_q_r3_15 : (Cond.methodLink RL 15 yX0_addAstronomer : Cond) ∈ lw_tbl := List.mem_of_getElem? (i := 366) (by decide +kernel)
theorem lw_q_r3_16 : (Cond.instanceMethod yX0_addAstronomer : Cond) ∈ lw_tbl := List.mem_of_getElem? (i := 367) (by decide +kernel)
theorem lw_q_r3_17 : (Cond.selects RX0 yX0_addAstronomer yX0_addAstronomer : Cond) ∈ lw_tbl := List.mem_of_getElem? (i := 368) (by decide +kernel)
theorem lw_q_r3_18 : (Cond.code yX0_addAstronomer cX0_addAstronomer 3 (some .int) : Cond) ∈ lw_tbl := List.mem_of_getElem? (i := 369) (by decide +kernel)
theorem lw_q_r3_19 : (Cond.classLink RX0 49 "java/lang/IllegalArgumentException" : Cond) ∈ lw_tbl := List.mem_of_getElem? (i := 370) (by decide +kernel)
theorem lw_q_r3_20 : (Cond.initialized "java/lang/IllegalArgumentException" : Cond) ∈ lw_tbl := List.mem_of_getElem? (i := 46) (by decide +kernel)
theorem lw_q_r3_21 : (Cond.methodLink RX0 56 yX0_letBlame : Cond) ∈ lw_tbl := List.mem_of_getElem? (i := 387) (by decide +kernel)
theorem lw_q_r3_22 : (Cond.instanceMethod yX0_letBlame : Cond) ∈ lw_tbl := List.mem_of_getElem? (i := 389) (by decide +kernel)
theorem lw_q_r3_23 : (Cond.selects RX0 yX0_letBlame yX0_letBlame : Cond) ∈ lw_tbl := List.mem_of_getElem? (i := 11) (by decide +kernel)
theorem lw_q_r3 : ∀ w ∈ wsL_law0_r3, w ∈ lw_tbl := List.forall_mem_cons.mpr ⟨lw_q_r3_0, List.forall_mem_cons.mpr ⟨lw_q_r3_1, List.forall_mem_cons.mpr ⟨lw_q_r3_2, List.forall_mem_cons.mpr ⟨lw_q_r3_3, List.forall_mem_cons.mpr ⟨lw_q_r3_4, List.forall_mem_cons.mpr ⟨lw_q_r3_5, List.forall_mem_cons.mpr ⟨lw_q_r3_6, List.forall_mem_cons.mpr ⟨lw_q_r3_7, List.forall_mem_cons.mpr ⟨lw_q_r3_8, List.forall_mem_cons.mpr ⟨lw_q_r3_9, List.forall_mem_cons.mpr ⟨lw_q_r3_10, List.forall_mem_cons.mpr ⟨lw_q_r3_11, List.forall_mem_cons.mpr ⟨lw_q_r3_12, List.forall_mem_cons.mpr ⟨lw_q_r3_13, List.forall_mem_cons.mpr ⟨lw_q_r3_14, List.forall_mem_cons.mpr ⟨lw_q_r3_15, List.forall_mem_cons.mpr ⟨lw_q_r3_16, List.forall_mem_cons.mpr ⟨lw_q_r3_17, List.forall_mem_cons.mpr ⟨lw_q_r3_18, List.forall_mem_cons.mpr ⟨lw_q_r3_19, List.forall_mem_cons.mpr ⟨lw_q_r3_20, List.forall_mem_cons.mpr ⟨lw_q_r3_21, List.forall_mem_cons.mpr ⟨lw_q_r3_22, List.forall_mem_cons.mpr ⟨lw_q_r3_23, fun _ h => absurd h List.not_mem_nil⟩⟩⟩⟩⟩⟩⟩⟩⟩⟩⟩⟩⟩⟩⟩⟩⟩⟩⟩⟩⟩⟩⟩⟩
theorem lw_q_r4_0 : (Cond.code yX0_letBlame cX0_letBlame 3 none : Cond) ∈ lw_tbl := List.mem_of_getElem? (i := 390) (by decide +kernel)
theorem lw_q_r4_1 : (Cond.methodLink RL 93 yX1_addAstronomer : Cond) ∈ lw_tbl := List.mem_of_getElem? (i := 557) (by decide +kernel)
theorem lw_q_r4_2 : (Cond.instanceMethod yX1_addAstronomer : Cond) ∈ lw_tbl := List.mem_of_getElem? (i := 558) (by decide +kernel)
theorem lw_q_r4_3 : (Cond.selects RX1 yX1_addAstronomer yX1_addAstronomer : Cond) ∈ lw_tbl := List.mem_of_getElem? (i := 559) (by decide +kernel)
theorem lw_q_r4_4 : (Cond.code yX1_addAstronomer cX1_addAstronomer 2 (some .int) : Cond) ∈ lw_tbl := List.mem_of_getElem? (i := 560) (by decide +kernel)
theorem lw_q_r4_5 : (Cond.fieldLink RX1 40 "SmudgedStarModel" "astronomers" "I" : Cond) ∈ lw_tbl := List.mem_of_getElem? (i := 519) (by decide +kernel)
theorem lw_q_r4_6 : (Cond.methodLink RX1 33 yX1_isIn : Cond) ∈ lw_tbl := List.mem_of_getElem? (i := 561) (by decide +kernel)
theorem lw_q_r4_7 : (Cond.static yX1_isIn : Cond) ∈ lw_tbl := List.mem_of_getElem? (i := 562) (by decide +kernel)
theorem lw_q_r4_8 : (Cond.code yX1_isIn cX1_isIn 3 (some .boolean) : Cond) ∈ lw_tbl := List.mem_of_getElem? (i := 563) (by decide +kernel)
theorem lw_q_r4_9 : (Cond.methodLink RL 94 yL_blame : Cond) ∈ lw_tbl := List.mem_of_getElem? (i := 391) (by decide +kernel)
theorem lw_q_r4_10 : (Cond.static yL_blame : Cond) ∈ lw_tbl := List.mem_of_getElem? (i := 392) (by decide +kernel)
theorem lw_q_r4_11 : (Cond.codeWith yL_blame cL_blame 5 (some .int) [(0, 10, 13, 25), (0, 10, 17, 19)] : Cond) ∈ lw_tbl := List.mem_of_getElem? (i := 393) (by decide +kernel)
theorem lw_q_r4_12 : (Cond.classLink RL 25 "java/lang/IndexOutOfBoundsException" : Cond) ∈ lw_tbl := List.mem_of_getElem? (i := 394) (by decide +kernel)
theorem lw_q_r4_13 : (Cond.methodLink RL 21 yX0_blame : Cond) ∈ lw_tbl := List.mem_of_getElem? (i := 395) (by decide +kernel)
theorem lw_q_r4_14 : (Cond.instanceMethod yX0_blame : Cond) ∈ lw_tbl := List.mem_of_getElem? (i := 396) (by decide +kernel)
theorem lw_q_r4_15 : (Cond.selects RX0 yX0_blame yX0_blame : Cond) ∈ lw_tbl := List.mem_of_getElem? (i := 397) (by decide +kernel)
theorem lw_q_r4_16 : (Cond.code yX0_blame cX0_blame 4 (some .int) : Cond) ∈ lw_tbl := List.mem_of_getElem? (i := 398) (by decide +kernel)
theorem lw_q_r4_17 : (Cond.methodLink RX0 60 yX0_requireAstronomer : Cond) ∈ lw_tbl := List.mem_of_getElem? (i := 325) (by decide +kernel)
theorem lw_q_r4_18 : (Cond.instanceMethod yX0_requireAstronomer : Cond) ∈ lw_tbl := List.mem_of_getElem? (i := 327) (by decide +kernel)
theorem lw_q_r4_19 : (Cond.selects RX0 yX0_requireAstronomer yX0_requireAstronomer : Cond) ∈ lw_tbl := List.mem_of_getElem? (i := 10) (by decide +kernel)
theorem lw_q_r4_20 : (Cond.code yX0_requireAstronomer cX0_requireAstronomer 2 none : Cond) ∈ lw_tbl := List.mem_of_getElem? (i := 328) (by decide +kernel)
theorem lw_q_r4_21 : (Cond.classLink RX0 187 "java/lang/IndexOutOfBoundsException" : Cond) ∈ lw_tbl := List.mem_of_getElem? (i := 138) (by decide +kernel)
theorem lw_q_r4_22 : (Cond.initialized "java/lang/IndexOutOfBoundsException" : Cond) ∈ lw_tbl := List.mem_of_getElem? (i := 47) (by decide +kernel)
theorem lw_q_r4_23 : (Cond.methodLink RX0 64 yX0_requireSet : Cond) ∈ lw_tbl := List.mem_of_getElem? (i := 399) (by decide +kernel)
theorem lw_q_r4 : ∀ w ∈ wsL_law0_r4, w ∈ lw_tbl := List.forall_mem_cons.mpr ⟨lw_q_r4_0, List.forall_mem_cons.mpr ⟨lw_q_r4_1, List.forall_mem_cons.mpr ⟨lw_q_r4_2, List.forall_mem_cons.mpr ⟨lw_q_r4_3, List.forall_mem_cons.mpr ⟨lw_q_r4_4, List.forall_mem_cons.mpr ⟨lw_q_r4_5, List.forall_mem_cons.mpr ⟨lw_q_r4_6, List.forall_mem_cons.mpr ⟨lw_q_r4_7, List.forall_mem_cons.mpr ⟨lw_q_r4_8, List.forall_mem_cons.mpr ⟨lw_q_r4_9, List.forall_mem_cons.mpr ⟨lw_q_r4_10, List.forall_mem_cons.mpr ⟨lw_q_r4_11, List.forall_mem_cons.mpr ⟨lw_q_r4_12, List.forall_mem_cons.mpr ⟨lw_q_r4_13, List.forall_mem_cons.mpr ⟨lw_q_r4_14, List.forall_mem_cons.mpr ⟨lw_q_r4_15, List.forall_mem_cons.mpr ⟨lw_q_r4_16, List.forall_mem_cons.mpr ⟨lw_q_r4_17, List.forall_mem_cons.mpr ⟨lw_q_r4_18, List.forall_mem_cons.mpr ⟨lw_q_r4_19, List.forall_mem_cons.mpr ⟨lw_q_r4_20, List.forall_mem_cons.mpr ⟨lw_q_r4_21, List.forall_mem_cons.mpr ⟨lw_q_r4_22, List.forall_mem_cons.mpr ⟨lw_q_r4_23, fun _ h => absurd h List.not_mem_nil⟩⟩⟩⟩⟩⟩⟩⟩⟩⟩⟩⟩⟩⟩⟩⟩⟩⟩⟩⟩⟩⟩⟩⟩
theorem lw_q_r5_0 : (Cond.instanceMethod yX0_requireSet : Cond) ∈ lw_tbl := List.mem_of_getElem? (i := 401) (by decide +kernel)
theorem lw_q_r5_1 : (Cond.selects RX0 yX0_requireSet yX0_requireSet : Cond) ∈ lw_tbl := List.mem_of_getElem? (i := 12) (by decide +kernel)
theorem lw_q_r5_2 : (Cond.code yX0_requireSet cX0_requireSet 2 none : Cond) ∈ lw_tbl := List.mem_of_getElem? (i := 402) (by decide +kernel)
theorem lw_q_r5_3 : (Cond.methodLink RX0 111 yX0_allThings : Cond) ∈ lw_tbl := List.mem_of_getElem? (i := 111) (by decide +kernel)
theorem lw_q_r5_4 : (Cond.instanceMethod yX0_allThings : Cond) ∈ lw_tbl := List.mem_of_getElem? (i := 113) (by decide +kernel)
theorem lw_q_r5_5 : (Cond.selects RX0 yX0_allThings yX0_allThings : Cond) ∈ lw_tbl := List.mem_of_getElem? (i := 0) (by decide +kernel)
theorem lw_q_r5_6 : (Cond.code yX0_allThings cX0_allThings 1 (some .int) : Cond) ∈ lw_tbl := List.mem_of_getElem? (i := 114) (by decide +kernel)
theorem lw_q_r5_7 : (Cond.methodLink RL 97 yX1_blame : Cond) ∈ lw_tbl := List.mem_of_getElem? (i := 564) (by decide +kernel)
theorem lw_q_r5_8 : (Cond.instanceMethod yX1_blame : Cond) ∈ lw_tbl := List.mem_of_getElem? (i := 565) (by decide +kernel)
theorem lw_q_r5_9 : (Cond.selects RX1 yX1_blame yX1_blame : Cond) ∈ lw_tbl := List.mem_of_getElem? (i := 566) (by decide +kernel)
theorem lw_q_r5_10 : (Cond.code yX1_blame cX1_blame 4 (some .int) : Cond) ∈ lw_tbl := List.mem_of_getElem? (i := 567) (by decide +kernel)
theorem lw_q_r5_11 : (Cond.methodLink RX1 67 yX1_isAstronomer : Cond) ∈ lw_tbl := List.mem_of_getElem? (i := 568) (by decide +kernel)
theorem lw_q_r5_12 : (Cond.instanceMethod yX1_isAstronomer : Cond) ∈ lw_tbl := List.mem_of_getElem? (i := 570) (by decide +kernel)
theorem lw_q_r5_13 : (Cond.selects RX1 yX1_isAstronomer yX1_isAstronomer : Cond) ∈ lw_tbl := List.mem_of_getElem? (i := 19) (by decide +kernel)
theorem lw_q_r5_14 : (Cond.code yX1_isAstronomer cX1_isAstronomer 2 (some .boolean) : Cond) ∈ lw_tbl := List.mem_of_getElem? (i := 571) (by decide +kernel)
theorem lw_q_r5_15 : (Cond.methodLink RX1 47 yX1_all : Cond) ∈ lw_tbl := List.mem_of_getElem? (i := 572) (by decide +kernel)
theorem lw_q_r5_16 : (Cond.instanceMethod yX1_all : Cond) ∈ lw_tbl := List.mem_of_getElem? (i := 574) (by decide +kernel)
theorem lw_q_r5_17 : (Cond.selects RX1 yX1_all yX1_all : Cond) ∈ lw_tbl := List.mem_of_getElem? (i := 20) (by decide +kernel)
theorem lw_q_r5_18 : (Cond.code yX1_all cX1_all 1 (some .int) : Cond) ∈ lw_tbl := List.mem_of_getElem? (i := 575) (by decide +kernel)
theorem lw_q_r5_19 : (Cond.methodLink RX1 71 yX1_think : Cond) ∈ lw_tbl := List.mem_of_getElem? (i := 576) (by decide +kernel)
theorem lw_q_r5_20 : (Cond.instanceMethod yX1_think : Cond) ∈ lw_tbl := List.mem_of_getElem? (i := 578) (by decide +kernel)
theorem lw_q_r5_21 : (Cond.selects RX1 yX1_think yX1_think : Cond) ∈ lw_tbl := List.mem_of_getElem? (i := 21) (by decide +kernel)
theorem lw_q_r5_22 : (Cond.code yX1_think cX1_think 3 none : Cond) ∈ lw_tbl := List.mem_of_getElem? (i := 579) (by decide +kernel)
theorem lw_q_r5_23 : (Cond.methodLink RL 98 yL_writeDown : Cond) ∈ lw_tbl := List.mem_of_getElem? (i := 404) (by decide +kernel)
theorem lw_q_r5 : ∀ w ∈ wsL_law0_r5, w ∈ lw_tbl := List.forall_mem_cons.mpr ⟨lw_q_r5_0, List.forall_mem_cons.mpr ⟨lw_q_r5_1, List.forall_mem_cons.mpr ⟨lw_q_r5_2, List.forall_mem_cons.mpr ⟨lw_q_r5_3, List.forall_mem_cons.mpr ⟨lw_q_r5_4, List.forall_mem_cons.mpr ⟨lw_q_r5_5, List.forall_mem_cons.mpr ⟨lw_q_r5_6, List.forall_mem_cons.mpr ⟨lw_q_r5_7, List.forall_mem_cons.mpr ⟨lw_q_r5_8, List.forall_mem_cons.mpr ⟨lw_q_r5_9, List.forall_mem_cons.mpr ⟨lw_q_r5_10, List.forall_mem_cons.mpr ⟨lw_q_r5_11, List.forall_mem_cons.mpr ⟨lw_q_r5_12, List.forall_mem_cons.mpr ⟨lw_q_r5_13, List.forall_mem_cons.mpr ⟨lw_q_r5_14, List.forall_mem_cons.mpr ⟨lw_q_r5_15, List.forall_mem_cons.mpr ⟨lw_q_r5_16, List.forall_mem_cons.mpr ⟨lw_q_r5_17, List.forall_mem_cons.mpr ⟨lw_q_r5_18, List.forall_mem_cons.mpr ⟨lw_q_r5_19, List.forall_mem_cons.mpr ⟨lw_q_r5_20, List.forall_mem_cons.mpr ⟨lw_q_r5_21, List.forall_mem_cons.mpr ⟨lw_q_r5_22, List.forall_mem_cons.mpr ⟨lw_q_r5_23, fun _ h => absurd h List.not_mem_nil⟩⟩⟩⟩⟩⟩⟩⟩⟩⟩⟩⟩⟩⟩⟩⟩⟩⟩⟩⟩⟩⟩⟩⟩
theorem lw_q_r6_0 : (Cond.static yL_writeDown : Cond) ∈ lw_tbl := List.mem_of_getElem? (i := 405) (by decide +kernel)
theorem lw_q_r6_1 : (Cond.codeWith yL_writeDown cL_writeDown 5 (some .int) [(0, 10, 13, 19), (0, 10, 17, 13)] : Cond) ∈ lw_tbl := List.mem_of_getElem? (i := 406) (by decide +kernel)
theorem lw_q_r6_2 : (Cond.methodLink RL 27 yX0_writeDown : Cond) ∈ lw_tbl := List.mem_of_getElem? (i := 407) (by decide +kernel)
theorem lw_q_r6_3 : (Cond.instanceMethod yX0_writeDown : Cond) ∈ lw_tbl := List.mem_of_getElem? (i := 408) (by decide +kernel)
theorem lw_q_r6_4 : (Cond.selects RX0 yX0_writeDown yX0_writeDown : Cond) ∈ lw_tbl := List.mem_of_getElem? (i := 409) (by decide +kernel)
theorem lw_q_r6_5 : (Cond.code yX0_writeDown cX0_writeDown 4 (some .int) : Cond) ∈ lw_tbl := List.mem_of_getElem? (i := 410) (by decide +kernel)
theorem lw_q_r6_6 : (Cond.methodLink RX0 67 yX0_requireUsableSet : Cond) ∈ lw_tbl := List.mem_of_getElem? (i := 411) (by decide +kernel)
theorem lw_q_r6_7 : (Cond.instanceMethod yX0_requireUsableSet : Cond) ∈ lw_tbl := List.mem_of_getElem? (i := 413) (by decide +kernel)
theorem lw_q_r6_8 : (Cond.selects RX0 yX0_requireUsableSet yX0_requireUsableSet : Cond) ∈ lw_tbl := List.mem_of_getElem? (i := 13) (by decide +kernel)
theorem lw_q_r6_9 : (Cond.code yX0_requireUsableSet cX0_requireUsableSet 2 none : Cond) ∈ lw_tbl := List.mem_of_getElem? (i := 414) (by decide +kernel)
theorem lw_q_r6_10 : (Cond.methodLink RX0 70 yX0_requireRoomForNight : Cond) ∈ lw_tbl := List.mem_of_getElem? (i := 416) (by decide +kernel)
theorem lw_q_r6_11 : (Cond.instanceMethod yX0_requireRoomForNight : Cond) ∈ lw_tbl := List.mem_of_getElem? (i := 418) (by decide +kernel)
theorem lw_q_r6_12 : (Cond.selects RX0 yX0_requireRoomForNight yX0_requireRoomForNight : Cond) ∈ lw_tbl := List.mem_of_getElem? (i := 14) (by decide +kernel)
theorem lw_q_r6_13 : (Cond.code yX0_requireRoomForNight cX0_requireRoomForNight 1 none : Cond) ∈ lw_tbl := List.mem_of_getElem? (i := 419) (by decide +kernel)
theorem lw_q_r6_14 : (Cond.methodLink RX0 73 yX0_countMisses : Cond) ∈ lw_tbl := List.mem_of_getElem? (i := 421) (by decide +kernel)
theorem lw_q_r6_15 : (Cond.instanceMethod yX0_countMisses : Cond) ∈ lw_tbl := List.mem_of_getElem? (i := 423) (by decide +kernel)
theorem lw_q_r6_16 : (Cond.selects RX0 yX0_countMisses yX0_countMisses : Cond) ∈ lw_tbl := List.mem_of_getElem? (i := 15) (by decide +kernel)
theorem lw_q_r6_17 : (Cond.code yX0_countMisses cX0_countMisses 5 none : Cond) ∈ lw_tbl := List.mem_of_getElem? (i := 424) (by decide +kernel)
theorem lw_q_r6_18 : (Cond.methodLink RX0 139 yX0_explains : Cond) ∈ lw_tbl := List.mem_of_getElem? (i := 425) (by decide +kernel)
theorem lw_q_r6_19 : (Cond.static yX0_explains : Cond) ∈ lw_tbl := List.mem_of_getElem? (i := 426) (by decide +kernel)
theorem lw_q_r6_20 : (Cond.code yX0_explains cX0_explains 3 (some .boolean) : Cond) ∈ lw_tbl := List.mem_of_getElem? (i := 427) (by decide +kernel)
theorem lw_q_r6_21 : (Cond.methodLink RX0 77 yX0_letAstronomersSee : Cond) ∈ lw_tbl := List.mem_of_getElem? (i := 428) (by decide +kernel)
theorem lw_q_r6_22 : (Cond.instanceMethod yX0_letAstronomersSee : Cond) ∈ lw_tbl := List.mem_of_getElem? (i := 430) (by decide +kernel)
theorem lw_q_r6_23 : (Cond.selects RX0 yX0_letAstronomersSee yX0_letAstronomersSee : Cond) ∈ lw_tbl := List.mem_of_getElem? (i := 16) (by decide +kernel)
theorem lw_q_r6 : ∀ w ∈ wsL_law0_r6, w ∈ lw_tbl := List.forall_mem_cons.mpr ⟨lw_q_r6_0, List.forall_mem_cons.mpr ⟨lw_q_r6_1, List.forall_mem_cons.mpr ⟨lw_q_r6_2, List.forall_mem_cons.mpr ⟨lw_q_r6_3, List.forall_mem_cons.mpr ⟨lw_q_r6_4, List.forall_mem_cons.mpr ⟨lw_q_r6_5, List.forall_mem_cons.mpr ⟨lw_q_r6_6, List.forall_mem_cons.mpr ⟨lw_q_r6_7, List.forall_mem_cons.mpr ⟨lw_q_r6_8, List.forall_mem_cons.mpr ⟨lw_q_r6_9, List.forall_mem_cons.mpr ⟨lw_q_r6_10, List.forall_mem_cons.mpr ⟨lw_q_r6_11, List.forall_mem_cons.mpr ⟨lw_q_r6_12, List.forall_mem_cons.mpr ⟨lw_q_r6_13, List.forall_mem_cons.mpr ⟨lw_q_r6_14, List.forall_mem_cons.mpr ⟨lw_q_r6_15, List.forall_mem_cons.mpr ⟨lw_q_r6_16, List.forall_mem_cons.mpr ⟨lw_q_r6_17, List.forall_mem_cons.mpr ⟨lw_q_r6_18, List.forall_mem_cons.mpr ⟨lw_q_r6_19, List.forall_mem_cons.mpr ⟨lw_q_r6_20, List.forall_mem_cons.mpr ⟨lw_q_r6_21, List.forall_mem_cons.mpr ⟨lw_q_r6_22, List.forall_mem_cons.mpr ⟨lw_q_r6_23, fun _ h => absurd h List.not_mem_nil⟩⟩⟩⟩⟩⟩⟩⟩⟩⟩⟩⟩⟩⟩⟩⟩⟩⟩⟩⟩⟩⟩⟩⟩
theorem lw_q_r7_0 : (Cond.code yX0_letAstronomersSee cX0_letAstronomersSee 6 (some .int) : Cond) ∈ lw_tbl := List.mem_of_getElem? (i := 431) (by decide +kernel)
theorem lw_q_r7_1 : (Cond.methodLink RX0 171 yX0_simplest : Cond) ∈ lw_tbl := List.mem_of_getElem? (i := 270) (by decide +kernel)
theorem lw_q_r7_2 : (Cond.instanceMethod yX0_simplest : Cond) ∈ lw_tbl := List.mem_of_getElem? (i := 221) (by decide +kernel)
theorem lw_q_r7_3 : (Cond.selects RX0 yX0_simplest yX0_simplest : Cond) ∈ lw_tbl := List.mem_of_getElem? (i := 222) (by decide +kernel)
theorem lw_q_r7_4 : (Cond.code yX0_simplest cX0_simplest 4 (some .int) : Cond) ∈ lw_tbl := List.mem_of_getElem? (i := 223) (by decide +kernel)
theorem lw_q_r7_5 : (Cond.methodLink RX0 105 yX0_missesOf : Cond) ∈ lw_tbl := List.mem_of_getElem? (i := 115) (by decide +kernel)
theorem lw_q_r7_6 : (Cond.instanceMethod yX0_missesOf : Cond) ∈ lw_tbl := List.mem_of_getElem? (i := 117) (by decide +kernel)
theorem lw_q_r7_7 : (Cond.selects RX0 yX0_missesOf yX0_missesOf : Cond) ∈ lw_tbl := List.mem_of_getElem? (i := 1) (by decide +kernel)
theorem lw_q_r7_8 : (Cond.code yX0_missesOf cX0_missesOf 2 (some .int) : Cond) ∈ lw_tbl := List.mem_of_getElem? (i := 118) (by decide +kernel)
theorem lw_q_r7_9 : (Cond.methodLink RX0 114 yJ6_bitCount_0f7a4 : Cond) ∈ lw_tbl := List.mem_of_getElem? (i := 224) (by decide +kernel)
theorem lw_q_r7_10 : (Cond.static yJ6_bitCount_0f7a4 : Cond) ∈ lw_tbl := List.mem_of_getElem? (i := 225) (by decide +kernel)
theorem lw_q_r7_11 : (Cond.initialized RJ6 : Cond) ∈ lw_tbl := List.mem_of_getElem? (i := 48) (by decide +kernel)
theorem lw_q_r7_12 : (Cond.code yJ6_bitCount_0f7a4 cJ6_bitCount_0f7a4 1 (some .int) : Cond) ∈ lw_tbl := List.mem_of_getElem? (i := 226) (by decide +kernel)
theorem lw_q_r7_13 : (Cond.constant RJ6 265 (1431655765) : Cond) ∈ lw_tbl := List.mem_of_getElem? (i := 227) (by decide +kernel)
theorem lw_q_r7_14 : (Cond.constant RJ6 266 (858993459) : Cond) ∈ lw_tbl := List.mem_of_getElem? (i := 228) (by decide +kernel)
theorem lw_q_r7_15 : (Cond.constant RJ6 267 (252645135) : Cond) ∈ lw_tbl := List.mem_of_getElem? (i := 229) (by decide +kernel)
theorem lw_q_r7_16 : (Cond.methodLink RL 101 yX1_writeDown : Cond) ∈ lw_tbl := List.mem_of_getElem? (i := 580) (by decide +kernel)
theorem lw_q_r7_17 : (Cond.instanceMethod yX1_writeDown : Cond) ∈ lw_tbl := List.mem_of_getElem? (i := 581) (by decide +kernel)
theorem lw_q_r7_18 : (Cond.selects RX1 yX1_writeDown yX1_writeDown : Cond) ∈ lw_tbl := List.mem_of_getElem? (i := 582) (by decide +kernel)
theorem lw_q_r7_19 : (Cond.code yX1_writeDown cX1_writeDown 6 (some .int) : Cond) ∈ lw_tbl := List.mem_of_getElem? (i := 583) (by decide +kernel)
theorem lw_q_r7_20 : (Cond.fieldLink RX1 37 "SmudgedStarModel" "nights" "I" : Cond) ∈ lw_tbl := List.mem_of_getElem? (i := 516) (by decide +kernel)
theorem lw_q_r7_21 : (Cond.fieldLink RX1 82 "SmudgedStarModel" "changes" "I" : Cond) ∈ lw_tbl := List.mem_of_getElem? (i := 523) (by decide +kernel)
theorem lw_q_r7_22 : (Cond.methodLink RX1 75 yX1_put : Cond) ∈ lw_tbl := List.mem_of_getElem? (i := 584) (by decide +kernel)
theorem lw_q_r7_23 : (Cond.instanceMethod yX1_put : Cond) ∈ lw_tbl := List.mem_of_getElem? (i := 586) (by decide +kernel)
theorem lw_q_r7 : ∀ w ∈ wsL_law0_r7, w ∈ lw_tbl := List.forall_mem_cons.mpr ⟨lw_q_r7_0, List.forall_mem_cons.mpr ⟨lw_q_r7_1, List.forall_mem_cons.mpr ⟨lw_q_r7_2, List.forall_mem_cons.mpr ⟨lw_q_r7_3, List.forall_mem_cons.mpr ⟨lw_q_r7_4, List.forall_mem_cons.mpr ⟨lw_q_r7_5, List.forall_mem_cons.mpr ⟨lw_q_r7_6, List.forall_mem_cons.mpr ⟨lw_q_r7_7, List.forall_mem_cons.mpr ⟨lw_q_r7_8, List.forall_mem_cons.mpr ⟨lw_q_r7_9, List.forall_mem_cons.mpr ⟨lw_q_r7_10, List.forall_mem_cons.mpr ⟨lw_q_r7_11, List.forall_mem_cons.mpr ⟨lw_q_r7_12, List.forall_mem_cons.mpr ⟨lw_q_r7_13, List.forall_mem_cons.mpr ⟨lw_q_r7_14, List.forall_mem_cons.mpr ⟨lw_q_r7_15, List.forall_mem_cons.mpr ⟨lw_q_r7_16, List.forall_mem_cons.mpr ⟨lw_q_r7_17, List.forall_mem_cons.mpr ⟨lw_q_r7_18, List.forall_mem_cons.mpr ⟨lw_q_r7_19, List.forall_mem_cons.mpr ⟨lw_q_r7_20, List.forall_mem_cons.mpr ⟨lw_q_r7_21, List.forall_mem_cons.mpr ⟨lw_q_r7_22, List.forall_mem_cons.mpr ⟨lw_q_r7_23, fun _ h => absurd h List.not_mem_nil⟩⟩⟩⟩⟩⟩⟩⟩⟩⟩⟩⟩⟩⟩⟩⟩⟩⟩⟩⟩⟩⟩⟩⟩
theorem lw_q_r8_0 : (Cond.selects RX1 yX1_put yX1_put : Cond) ∈ lw_tbl := List.mem_of_getElem? (i := 22) (by decide +kernel)
theorem lw_q_r8_1 : (Cond.code yX1_put cX1_put 3 none : Cond) ∈ lw_tbl := List.mem_of_getElem? (i := 587) (by decide +kernel)
theorem lw_q_r8_2 : (Cond.methodLink RX1 79 yX1_fewest : Cond) ∈ lw_tbl := List.mem_of_getElem? (i := 588) (by decide +kernel)
theorem lw_q_r8_3 : (Cond.instanceMethod yX1_fewest : Cond) ∈ lw_tbl := List.mem_of_getElem? (i := 590) (by decide +kernel)
theorem lw_q_r8_4 : (Cond.selects RX1 yX1_fewest yX1_fewest : Cond) ∈ lw_tbl := List.mem_of_getElem? (i := 23) (by decide +kernel)
theorem lw_q_r8_5 : (Cond.code yX1_fewest cX1_fewest 3 (some .int) : Cond) ∈ lw_tbl := List.mem_of_getElem? (i := 591) (by decide +kernel)
theorem lw_q_r8_6 : (Cond.methodLink RX1 51 yX1_unexplained : Cond) ∈ lw_tbl := List.mem_of_getElem? (i := 592) (by decide +kernel)
theorem lw_q_r8_7 : (Cond.instanceMethod yX1_unexplained : Cond) ∈ lw_tbl := List.mem_of_getElem? (i := 594) (by decide +kernel)
theorem lw_q_r8_8 : (Cond.selects RX1 yX1_unexplained yX1_unexplained : Cond) ∈ lw_tbl := List.mem_of_getElem? (i := 24) (by decide +kernel)
theorem lw_q_r8_9 : (Cond.code yX1_unexplained cX1_unexplained 4 (some .int) : Cond) ∈ lw_tbl := List.mem_of_getElem? (i := 595) (by decide +kernel)
theorem lw_q_r8_10 : (Cond.methodLink RX1 43 yX1_explains : Cond) ∈ lw_tbl := List.mem_of_getElem? (i := 596) (by decide +kernel)
theorem lw_q_r8_11 : (Cond.static yX1_explains : Cond) ∈ lw_tbl := List.mem_of_getElem? (i := 597) (by decide +kernel)
theorem lw_q_r8_12 : (Cond.code yX1_explains cX1_explains 3 (some .boolean) : Cond) ∈ lw_tbl := List.mem_of_getElem? (i := 598) (by decide +kernel)
theorem lw_q_r8_13 : (Cond.methodLink RX1 55 yJ6_bitCount_0f7a4 : Cond) ∈ lw_tbl := List.mem_of_getElem? (i := 599) (by decide +kernel)
theorem lw_q_r8_14 : (Cond.methodLink RL 102 yL_strike : Cond) ∈ lw_tbl := List.mem_of_getElem? (i := 432) (by decide +kernel)
theorem lw_q_r8_15 : (Cond.static yL_strike : Cond) ∈ lw_tbl := List.mem_of_getElem? (i := 433) (by decide +kernel)
theorem lw_q_r8_16 : (Cond.codeWith yL_strike cL_strike 4 (some .int) [(0, 9, 12, 25)] : Cond) ∈ lw_tbl := List.mem_of_getElem? (i := 434) (by decide +kernel)
theorem lw_q_r8_17 : (Cond.methodLink RL 31 yX0_strike : Cond) ∈ lw_tbl := List.mem_of_getElem? (i := 435) (by decide +kernel)
theorem lw_q_r8_18 : (Cond.instanceMethod yX0_strike : Cond) ∈ lw_tbl := List.mem_of_getElem? (i := 436) (by decide +kernel)
theorem lw_q_r8_19 : (Cond.selects RX0 yX0_strike yX0_strike : Cond) ∈ lw_tbl := List.mem_of_getElem? (i := 437) (by decide +kernel)
theorem lw_q_r8_20 : (Cond.code yX0_strike cX0_strike 3 (some .int) : Cond) ∈ lw_tbl := List.mem_of_getElem? (i := 438) (by decide +kernel)
theorem lw_q_r8_21 : (Cond.methodLink RX0 81 yX0_requireNight : Cond) ∈ lw_tbl := List.mem_of_getElem? (i := 308) (by decide +kernel)
theorem lw_q_r8_22 : (Cond.instanceMethod yX0_requireNight : Cond) ∈ lw_tbl := List.mem_of_getElem? (i := 310) (by decide +kernel)
theorem lw_q_r8_23 : (Cond.selects RX0 yX0_requireNight yX0_requireNight : Cond) ∈ lw_tbl := List.mem_of_getElem? (i := 8) (by decide +kernel)
theorem lw_q_r8 : ∀ w ∈ wsL_law0_r8, w ∈ lw_tbl := List.forall_mem_cons.mpr ⟨lw_q_r8_0, List.forall_mem_cons.mpr ⟨lw_q_r8_1, List.forall_mem_cons.mpr ⟨lw_q_r8_2, List.forall_mem_cons.mpr ⟨lw_q_r8_3, List.forall_mem_cons.mpr ⟨lw_q_r8_4, List.forall_mem_cons.mpr ⟨lw_q_r8_5, List.forall_mem_cons.mpr ⟨lw_q_r8_6, List.forall_mem_cons.mpr ⟨lw_q_r8_7, List.forall_mem_cons.mpr ⟨lw_q_r8_8, List.forall_mem_cons.mpr ⟨lw_q_r8_9, List.forall_mem_cons.mpr ⟨lw_q_r8_10, List.forall_mem_cons.mpr ⟨lw_q_r8_11, List.forall_mem_cons.mpr ⟨lw_q_r8_12, List.forall_mem_cons.mpr ⟨lw_q_r8_13, List.forall_mem_cons.mpr ⟨lw_q_r8_14, List.forall_mem_cons.mpr ⟨lw_q_r8_15, List.forall_mem_cons.mpr ⟨lw_q_r8_16, List.forall_mem_cons.mpr ⟨lw_q_r8_17, List.forall_mem_cons.mpr ⟨lw_q_r8_18, List.forall_mem_cons.mpr ⟨lw_q_r8_19, List.forall_mem_cons.mpr ⟨lw_q_r8_20, List.forall_mem_cons.mpr ⟨lw_q_r8_21, List.forall_mem_cons.mpr ⟨lw_q_r8_22, List.forall_mem_cons.mpr ⟨lw_q_r8_23, fun _ h => absurd h List.not_mem_nil⟩⟩⟩⟩⟩⟩⟩⟩⟩⟩⟩⟩⟩⟩⟩⟩⟩⟩⟩⟩⟩⟩⟩⟩
theorem lw_q_r9_0 : (Cond.code yX0_requireNight cX0_requireNight 2 none : Cond) ∈ lw_tbl := List.mem_of_getElem? (i := 311) (by decide +kernel)
theorem lw_q_r9_1 : (Cond.methodLink RL 104 yX1_strike : Cond) ∈ lw_tbl := List.mem_of_getElem? (i := 600) (by decide +kernel)
theorem lw_q_r9_2 : (Cond.instanceMethod yX1_strike : Cond) ∈ lw_tbl := List.mem_of_getElem? (i := 601) (by decide +kernel)
theorem lw_q_r9_3 : (Cond.selects RX1 yX1_strike yX1_strike : Cond) ∈ lw_tbl := List.mem_of_getElem? (i := 602) (by decide +kernel)
theorem lw_q_r9_4 : (Cond.code yX1_strike cX1_strike 3 (some .int) : Cond) ∈ lw_tbl := List.mem_of_getElem? (i := 603) (by decide +kernel)
theorem lw_q_r9_5 : (Cond.methodLink RX1 85 yX1_isNight : Cond) ∈ lw_tbl := List.mem_of_getElem? (i := 604) (by decide +kernel)
theorem lw_q_r9_6 : (Cond.instanceMethod yX1_isNight : Cond) ∈ lw_tbl := List.mem_of_getElem? (i := 606) (by decide +kernel)
theorem lw_q_r9_7 : (Cond.selects RX1 yX1_isNight yX1_isNight : Cond) ∈ lw_tbl := List.mem_of_getElem? (i := 25) (by decide +kernel)
theorem lw_q_r9_8 : (Cond.code yX1_isNight cX1_isNight 2 (some .boolean) : Cond) ∈ lw_tbl := List.mem_of_getElem? (i := 607) (by decide +kernel)
theorem lw_q_r9_9 : (Cond.methodLink RL 105 yX0_things : Cond) ∈ lw_tbl := List.mem_of_getElem? (i := 91) (by decide +kernel)
theorem lw_q_r9_10 : (Cond.instanceMethod yX0_things : Cond) ∈ lw_tbl := List.mem_of_getElem? (i := 92) (by decide +kernel)
theorem lw_q_r9_11 : (Cond.selects RX0 yX0_things yX0_things : Cond) ∈ lw_tbl := List.mem_of_getElem? (i := 93) (by decide +kernel)
theorem lw_q_r9_12 : (Cond.code yX0_things cX0_things 1 (some .int) : Cond) ∈ lw_tbl := List.mem_of_getElem? (i := 94) (by decide +kernel)
theorem lw_q_r9_13 : (Cond.methodLink RL 108 yX1_things : Cond) ∈ lw_tbl := List.mem_of_getElem? (i := 608) (by decide +kernel)
theorem lw_q_r9_14 : (Cond.instanceMethod yX1_things : Cond) ∈ lw_tbl := List.mem_of_getElem? (i := 609) (by decide +kernel)
theorem lw_q_r9_15 : (Cond.selects RX1 yX1_things yX1_things : Cond) ∈ lw_tbl := List.mem_of_getElem? (i := 610) (by decide +kernel)
theorem lw_q_r9_16 : (Cond.code yX1_things cX1_things 1 (some .int) : Cond) ∈ lw_tbl := List.mem_of_getElem? (i := 611) (by decide +kernel)
theorem lw_q_r9_17 : (Cond.methodLink RX1 88 yX1_ok : Cond) ∈ lw_tbl := List.mem_of_getElem? (i := 612) (by decide +kernel)
theorem lw_q_r9_18 : (Cond.instanceMethod yX1_ok : Cond) ∈ lw_tbl := List.mem_of_getElem? (i := 614) (by decide +kernel)
theorem lw_q_r9_19 : (Cond.selects RX1 yX1_ok yX1_ok : Cond) ∈ lw_tbl := List.mem_of_getElem? (i := 26) (by decide +kernel)
theorem lw_q_r9_20 : (Cond.code yX1_ok cX1_ok 2 (some .int) : Cond) ∈ lw_tbl := List.mem_of_getElem? (i := 615) (by decide +kernel)
theorem lw_q_r9_21 : (Cond.methodLink RL 109 yL_nightsWith : Cond) ∈ lw_tbl := List.mem_of_getElem? (i := 439) (by decide +kernel)
theorem lw_q_r9_22 : (Cond.static yL_nightsWith : Cond) ∈ lw_tbl := List.mem_of_getElem? (i := 440) (by decide +kernel)
theorem lw_q_r9_23 : (Cond.codeWith yL_nightsWith cL_nightsWith 4 (some .int) [(0, 9, 12, 25)] : Cond) ∈ lw_tbl := List.mem_of_getElem? (i := 441) (by decide +kernel)
theorem lw_q_r9 : ∀ w ∈ wsL_law0_r9, w ∈ lw_tbl := List.forall_mem_cons.mpr ⟨lw_q_r9_0, List.forall_mem_cons.mpr ⟨lw_q_r9_1, List.forall_mem_cons.mpr ⟨lw_q_r9_2, List.forall_mem_cons.mpr ⟨lw_q_r9_3, List.forall_mem_cons.mpr ⟨lw_q_r9_4, List.forall_mem_cons.mpr ⟨lw_q_r9_5, List.forall_mem_cons.mpr ⟨lw_q_r9_6, List.forall_mem_cons.mpr ⟨lw_q_r9_7, List.forall_mem_cons.mpr ⟨lw_q_r9_8, List.forall_mem_cons.mpr ⟨lw_q_r9_9, List.forall_mem_cons.mpr ⟨lw_q_r9_10, List.forall_mem_cons.mpr ⟨lw_q_r9_11, List.forall_mem_cons.mpr ⟨lw_q_r9_12, List.forall_mem_cons.mpr ⟨lw_q_r9_13, List.forall_mem_cons.mpr ⟨lw_q_r9_14, List.forall_mem_cons.mpr ⟨lw_q_r9_15, List.forall_mem_cons.mpr ⟨lw_q_r9_16, List.forall_mem_cons.mpr ⟨lw_q_r9_17, List.forall_mem_cons.mpr ⟨lw_q_r9_18, List.forall_mem_cons.mpr ⟨lw_q_r9_19, List.forall_mem_cons.mpr ⟨lw_q_r9_20, List.forall_mem_cons.mpr ⟨lw_q_r9_21, List.forall_mem_cons.mpr ⟨lw_q_r9_22, List.forall_mem_cons.mpr ⟨lw_q_r9_23, fun _ h => absurd h List.not_mem_nil⟩⟩⟩⟩⟩⟩⟩⟩⟩⟩⟩⟩⟩⟩⟩⟩⟩⟩⟩⟩⟩⟩⟩⟩
theorem lw_q_r10_0 : (Cond.methodLink RL 34 yX0_nightsWith : Cond) ∈ lw_tbl := List.mem_of_getElem? (i := 442) (by decide +kernel)
theorem lw_q_r10_1 : (Cond.instanceMethod yX0_nightsWith : Cond) ∈ lw_tbl := List.mem_of_getElem? (i := 277) (by decide +kernel)
theorem lw_q_r10_2 : (Cond.selects RX0 yX0_nightsWith yX0_nightsWith : Cond) ∈ lw_tbl := List.mem_of_getElem? (i := 278) (by decide +kernel)
theorem lw_q_r10_3 : (Cond.code yX0_nightsWith cX0_nightsWith 4 (some .int) : Cond) ∈ lw_tbl := List.mem_of_getElem? (i := 279) (by decide +kernel)
theorem lw_q_r10_4 : (Cond.methodLink RX0 84 yX0_requireThing : Cond) ∈ lw_tbl := List.mem_of_getElem? (i := 134) (by decide +kernel)
theorem lw_q_r10_5 : (Cond.instanceMethod yX0_requireThing : Cond) ∈ lw_tbl := List.mem_of_getElem? (i := 136) (by decide +kernel)
theorem lw_q_r10_6 : (Cond.selects RX0 yX0_requireThing yX0_requireThing : Cond) ∈ lw_tbl := List.mem_of_getElem? (i := 2) (by decide +kernel)
theorem lw_q_r10_7 : (Cond.code yX0_requireThing cX0_requireThing 2 none : Cond) ∈ lw_tbl := List.mem_of_getElem? (i := 137) (by decide +kernel)
theorem lw_q_r10_8 : (Cond.methodLink RX0 87 yX0_holds : Cond) ∈ lw_tbl := List.mem_of_getElem? (i := 206) (by decide +kernel)
theorem lw_q_r10_9 : (Cond.static yX0_holds : Cond) ∈ lw_tbl := List.mem_of_getElem? (i := 207) (by decide +kernel)
theorem lw_q_r10_10 : (Cond.code yX0_holds cX0_holds 2 (some .boolean) : Cond) ∈ lw_tbl := List.mem_of_getElem? (i := 208) (by decide +kernel)
theorem lw_q_r10_11 : (Cond.methodLink RX0 95 yX0_setOf : Cond) ∈ lw_tbl := List.mem_of_getElem? (i := 209) (by decide +kernel)
theorem lw_q_r10_12 : (Cond.static yX0_setOf : Cond) ∈ lw_tbl := List.mem_of_getElem? (i := 210) (by decide +kernel)
theorem lw_q_r10_13 : (Cond.code yX0_setOf cX0_setOf 1 (some .int) : Cond) ∈ lw_tbl := List.mem_of_getElem? (i := 211) (by decide +kernel)
theorem lw_q_r10_14 : (Cond.methodLink RL 111 yX1_nightsWith : Cond) ∈ lw_tbl := List.mem_of_getElem? (i := 616) (by decide +kernel)
theorem lw_q_r10_15 : (Cond.instanceMethod yX1_nightsWith : Cond) ∈ lw_tbl := List.mem_of_getElem? (i := 617) (by decide +kernel)
theorem lw_q_r10_16 : (Cond.selects RX1 yX1_nightsWith yX1_nightsWith : Cond) ∈ lw_tbl := List.mem_of_getElem? (i := 618) (by decide +kernel)
theorem lw_q_r10_17 : (Cond.code yX1_nightsWith cX1_nightsWith 2 (some .int) : Cond) ∈ lw_tbl := List.mem_of_getElem? (i := 619) (by decide +kernel)
theorem lw_q_r10_18 : (Cond.methodLink RX1 91 yX1_isThing : Cond) ∈ lw_tbl := List.mem_of_getElem? (i := 620) (by decide +kernel)
theorem lw_q_r10_19 : (Cond.instanceMethod yX1_isThing : Cond) ∈ lw_tbl := List.mem_of_getElem? (i := 622) (by decide +kernel)
theorem lw_q_r10_20 : (Cond.selects RX1 yX1_isThing yX1_isThing : Cond) ∈ lw_tbl := List.mem_of_getElem? (i := 27) (by decide +kernel)
theorem lw_q_r10_21 : (Cond.code yX1_isThing cX1_isThing 2 (some .boolean) : Cond) ∈ lw_tbl := List.mem_of_getElem? (i := 623) (by decide +kernel)
theorem lw_q_r10_22 : (Cond.methodLink RX1 94 yX1_nightsOf : Cond) ∈ lw_tbl := List.mem_of_getElem? (i := 624) (by decide +kernel)
theorem lw_q_r10_23 : (Cond.instanceMethod yX1_nightsOf : Cond) ∈ lw_tbl := List.mem_of_getElem? (i := 626) (by decide +kernel)
theorem lw_q_r10 : ∀ w ∈ wsL_law0_r10, w ∈ lw_tbl := List.forall_mem_cons.mpr ⟨lw_q_r10_0, List.forall_mem_cons.mpr ⟨lw_q_r10_1, List.forall_mem_cons.mpr ⟨lw_q_r10_2, List.forall_mem_cons.mpr ⟨lw_q_r10_3, List.forall_mem_cons.mpr ⟨lw_q_r10_4, List.forall_mem_cons.mpr ⟨lw_q_r10_5, List.forall_mem_cons.mpr ⟨lw_q_r10_6, List.forall_mem_cons.mpr ⟨lw_q_r10_7, List.forall_mem_cons.mpr ⟨lw_q_r10_8, List.forall_mem_cons.mpr ⟨lw_q_r10_9, List.forall_mem_cons.mpr ⟨lw_q_r10_10, List.forall_mem_cons.mpr ⟨lw_q_r10_11, List.forall_mem_cons.mpr ⟨lw_q_r10_12, List.forall_mem_cons.mpr ⟨lw_q_r10_13, List.forall_mem_cons.mpr ⟨lw_q_r10_14, List.forall_mem_cons.mpr ⟨lw_q_r10_15, List.forall_mem_cons.mpr ⟨lw_q_r10_16, List.forall_mem_cons.mpr ⟨lw_q_r10_17, List.forall_mem_cons.mpr ⟨lw_q_r10_18, List.forall_mem_cons.mpr ⟨lw_q_r10_19, List.forall_mem_cons.mpr ⟨lw_q_r10_20, List.forall_mem_cons.mpr ⟨lw_q_r10_21, List.forall_mem_cons.mpr ⟨lw_q_r10_22, List.forall_mem_cons.mpr ⟨lw_q_r10_23, fun _ h => absurd h List.not_mem_nil⟩⟩⟩⟩⟩⟩⟩⟩⟩⟩⟩⟩⟩⟩⟩⟩⟩⟩⟩⟩⟩⟩⟩⟩
theorem lw_q_r11_0 : (Cond.selects RX1 yX1_nightsOf yX1_nightsOf : Cond) ∈ lw_tbl := List.mem_of_getElem? (i := 28) (by decide +kernel)
theorem lw_q_r11_1 : (Cond.code yX1_nightsOf cX1_nightsOf 5 (some .int) : Cond) ∈ lw_tbl := List.mem_of_getElem? (i := 627) (by decide +kernel)
theorem lw_q_r11_2 : (Cond.methodLink RX1 60 yX1_has : Cond) ∈ lw_tbl := List.mem_of_getElem? (i := 628) (by decide +kernel)
theorem lw_q_r11_3 : (Cond.static yX1_has : Cond) ∈ lw_tbl := List.mem_of_getElem? (i := 629) (by decide +kernel)
theorem lw_q_r11_4 : (Cond.code yX1_has cX1_has 2 (some .boolean) : Cond) ∈ lw_tbl := List.mem_of_getElem? (i := 630) (by decide +kernel)
theorem lw_q_r11_5 : (Cond.methodLink RL 112 yL_smudgesWith : Cond) ∈ lw_tbl := List.mem_of_getElem? (i := 443) (by decide +kernel)
theorem lw_q_r11_6 : (Cond.static yL_smudgesWith : Cond) ∈ lw_tbl := List.mem_of_getElem? (i := 444) (by decide +kernel)
theorem lw_q_r11_7 : (Cond.codeWith yL_smudgesWith cL_smudgesWith 4 (some .int) [(0, 9, 12, 25)] : Cond) ∈ lw_tbl := List.mem_of_getElem? (i := 445) (by decide +kernel)
theorem lw_q_r11_8 : (Cond.methodLink RL 37 yX0_smudgesWith : Cond) ∈ lw_tbl := List.mem_of_getElem? (i := 446) (by decide +kernel)
theorem lw_q_r11_9 : (Cond.instanceMethod yX0_smudgesWith : Cond) ∈ lw_tbl := List.mem_of_getElem? (i := 281) (by decide +kernel)
theorem lw_q_r11_10 : (Cond.selects RX0 yX0_smudgesWith yX0_smudgesWith : Cond) ∈ lw_tbl := List.mem_of_getElem? (i := 282) (by decide +kernel)
theorem lw_q_r11_11 : (Cond.code yX0_smudgesWith cX0_smudgesWith 4 (some .int) : Cond) ∈ lw_tbl := List.mem_of_getElem? (i := 283) (by decide +kernel)
theorem lw_q_r11_12 : (Cond.methodLink RL 114 yX1_smudgesWith : Cond) ∈ lw_tbl := List.mem_of_getElem? (i := 631) (by decide +kernel)
theorem lw_q_r11_13 : (Cond.instanceMethod yX1_smudgesWith : Cond) ∈ lw_tbl := List.mem_of_getElem? (i := 632) (by decide +kernel)
theorem lw_q_r11_14 : (Cond.selects RX1 yX1_smudgesWith yX1_smudgesWith : Cond) ∈ lw_tbl := List.mem_of_getElem? (i := 633) (by decide +kernel)
theorem lw_q_r11_15 : (Cond.code yX1_smudgesWith cX1_smudgesWith 2 (some .int) : Cond) ∈ lw_tbl := List.mem_of_getElem? (i := 634) (by decide +kernel)
theorem lw_q_r11_16 : (Cond.methodLink RL 115 yL_isCleared : Cond) ∈ lw_tbl := List.mem_of_getElem? (i := 447) (by decide +kernel)
theorem lw_q_r11_17 : (Cond.static yL_isCleared : Cond) ∈ lw_tbl := List.mem_of_getElem? (i := 448) (by decide +kernel)
theorem lw_q_r11_18 : (Cond.codeWith yL_isCleared cL_isCleared 4 (some .int) [(0, 16, 19, 25)] : Cond) ∈ lw_tbl := List.mem_of_getElem? (i := 449) (by decide +kernel)
theorem lw_q_r11_19 : (Cond.methodLink RL 40 yX0_isCleared : Cond) ∈ lw_tbl := List.mem_of_getElem? (i := 450) (by decide +kernel)
theorem lw_q_r11_20 : (Cond.instanceMethod yX0_isCleared : Cond) ∈ lw_tbl := List.mem_of_getElem? (i := 285) (by decide +kernel)
theorem lw_q_r11_21 : (Cond.selects RX0 yX0_isCleared yX0_isCleared : Cond) ∈ lw_tbl := List.mem_of_getElem? (i := 286) (by decide +kernel)
theorem lw_q_r11_22 : (Cond.code yX0_isCleared cX0_isCleared 2 (some .boolean) : Cond) ∈ lw_tbl := List.mem_of_getElem? (i := 287) (by decide +kernel)
theorem lw_q_r11_23 : (Cond.methodLink RX0 91 yX0_clearedThings : Cond) ∈ lw_tbl := List.mem_of_getElem? (i := 288) (by decide +kernel)
theorem lw_q_r11 : ∀ w ∈ wsL_law0_r11, w ∈ lw_tbl := List.forall_mem_cons.mpr ⟨lw_q_r11_0, List.forall_mem_cons.mpr ⟨lw_q_r11_1, List.forall_mem_cons.mpr ⟨lw_q_r11_2, List.forall_mem_cons.mpr ⟨lw_q_r11_3, List.forall_mem_cons.mpr ⟨lw_q_r11_4, List.forall_mem_cons.mpr ⟨lw_q_r11_5, List.forall_mem_cons.mpr ⟨lw_q_r11_6, List.forall_mem_cons.mpr ⟨lw_q_r11_7, List.forall_mem_cons.mpr ⟨lw_q_r11_8, List.forall_mem_cons.mpr ⟨lw_q_r11_9, List.forall_mem_cons.mpr ⟨lw_q_r11_10, List.forall_mem_cons.mpr ⟨lw_q_r11_11, List.forall_mem_cons.mpr ⟨lw_q_r11_12, List.forall_mem_cons.mpr ⟨lw_q_r11_13, List.forall_mem_cons.mpr ⟨lw_q_r11_14, List.forall_mem_cons.mpr ⟨lw_q_r11_15, List.forall_mem_cons.mpr ⟨lw_q_r11_16, List.forall_mem_cons.mpr ⟨lw_q_r11_17, List.forall_mem_cons.mpr ⟨lw_q_r11_18, List.forall_mem_cons.mpr ⟨lw_q_r11_19, List.forall_mem_cons.mpr ⟨lw_q_r11_20, List.forall_mem_cons.mpr ⟨lw_q_r11_21, List.forall_mem_cons.mpr ⟨lw_q_r11_22, List.forall_mem_cons.mpr ⟨lw_q_r11_23, fun _ h => absurd h List.not_mem_nil⟩⟩⟩⟩⟩⟩⟩⟩⟩⟩⟩⟩⟩⟩⟩⟩⟩⟩⟩⟩⟩⟩⟩⟩
theorem lw_q_r12_0 : (Cond.instanceMethod yX0_clearedThings : Cond) ∈ lw_tbl := List.mem_of_getElem? (i := 290) (by decide +kernel)
theorem lw_q_r12_1 : (Cond.selects RX0 yX0_clearedThings yX0_clearedThings : Cond) ∈ lw_tbl := List.mem_of_getElem? (i := 6) (by decide +kernel)
theorem lw_q_r12_2 : (Cond.code yX0_clearedThings cX0_clearedThings 3 (some .int) : Cond) ∈ lw_tbl := List.mem_of_getElem? (i := 291) (by decide +kernel)
theorem lw_q_r12_3 : (Cond.methodLink RL 117 yX1_isCleared : Cond) ∈ lw_tbl := List.mem_of_getElem? (i := 635) (by decide +kernel)
theorem lw_q_r12_4 : (Cond.instanceMethod yX1_isCleared : Cond) ∈ lw_tbl := List.mem_of_getElem? (i := 636) (by decide +kernel)
theorem lw_q_r12_5 : (Cond.selects RX1 yX1_isCleared yX1_isCleared : Cond) ∈ lw_tbl := List.mem_of_getElem? (i := 637) (by decide +kernel)
theorem lw_q_r12_6 : (Cond.code yX1_isCleared cX1_isCleared 2 (some .boolean) : Cond) ∈ lw_tbl := List.mem_of_getElem? (i := 638) (by decide +kernel)
theorem lw_q_r12_7 : (Cond.methodLink RX1 98 yX1_cleared : Cond) ∈ lw_tbl := List.mem_of_getElem? (i := 639) (by decide +kernel)
theorem lw_q_r12_8 : (Cond.instanceMethod yX1_cleared : Cond) ∈ lw_tbl := List.mem_of_getElem? (i := 641) (by decide +kernel)
theorem lw_q_r12_9 : (Cond.selects RX1 yX1_cleared yX1_cleared : Cond) ∈ lw_tbl := List.mem_of_getElem? (i := 29) (by decide +kernel)
theorem lw_q_r12_10 : (Cond.code yX1_cleared cX1_cleared 3 (some .int) : Cond) ∈ lw_tbl := List.mem_of_getElem? (i := 642) (by decide +kernel)
theorem lw_q_r12_11 : (Cond.methodLink RX1 101 yX1_isNot : Cond) ∈ lw_tbl := List.mem_of_getElem? (i := 643) (by decide +kernel)
theorem lw_q_r12_12 : (Cond.instanceMethod yX1_isNot : Cond) ∈ lw_tbl := List.mem_of_getElem? (i := 645) (by decide +kernel)
theorem lw_q_r12_13 : (Cond.selects RX1 yX1_isNot yX1_isNot : Cond) ∈ lw_tbl := List.mem_of_getElem? (i := 30) (by decide +kernel)
theorem lw_q_r12_14 : (Cond.code yX1_isNot cX1_isNot 2 (some .boolean) : Cond) ∈ lw_tbl := List.mem_of_getElem? (i := 646) (by decide +kernel)
theorem lw_q_r12_15 : (Cond.methodLink RL 118 yL_isProved : Cond) ∈ lw_tbl := List.mem_of_getElem? (i := 451) (by decide +kernel)
theorem lw_q_r12_16 : (Cond.static yL_isProved : Cond) ∈ lw_tbl := List.mem_of_getElem? (i := 452) (by decide +kernel)
theorem lw_q_r12_17 : (Cond.codeWith yL_isProved cL_isProved 4 (some .int) [(0, 16, 19, 25)] : Cond) ∈ lw_tbl := List.mem_of_getElem? (i := 453) (by decide +kernel)
theorem lw_q_r12_18 : (Cond.methodLink RL 44 yX0_isProved : Cond) ∈ lw_tbl := List.mem_of_getElem? (i := 454) (by decide +kernel)
theorem lw_q_r12_19 : (Cond.instanceMethod yX0_isProved : Cond) ∈ lw_tbl := List.mem_of_getElem? (i := 293) (by decide +kernel)
theorem lw_q_r12_20 : (Cond.selects RX0 yX0_isProved yX0_isProved : Cond) ∈ lw_tbl := List.mem_of_getElem? (i := 294) (by decide +kernel)
theorem lw_q_r12_21 : (Cond.code yX0_isProved cX0_isProved 5 (some .boolean) : Cond) ∈ lw_tbl := List.mem_of_getElem? (i := 295) (by decide +kernel)
theorem lw_q_r12_22 : (Cond.methodLink RL 120 yX1_isProved : Cond) ∈ lw_tbl := List.mem_of_getElem? (i := 647) (by decide +kernel)
theorem lw_q_r12_23 : (Cond.instanceMethod yX1_isProved : Cond) ∈ lw_tbl := List.mem_of_getElem? (i := 648) (by decide +kernel)
theorem lw_q_r12 : ∀ w ∈ wsL_law0_r12, w ∈ lw_tbl := List.forall_mem_cons.mpr ⟨lw_q_r12_0, List.forall_mem_cons.mpr ⟨lw_q_r12_1, List.forall_mem_cons.mpr ⟨lw_q_r12_2, List.forall_mem_cons.mpr ⟨lw_q_r12_3, List.forall_mem_cons.mpr ⟨lw_q_r12_4, List.forall_mem_cons.mpr ⟨lw_q_r12_5, List.forall_mem_cons.mpr ⟨lw_q_r12_6, List.forall_mem_cons.mpr ⟨lw_q_r12_7, List.forall_mem_cons.mpr ⟨lw_q_r12_8, List.forall_mem_cons.mpr ⟨lw_q_r12_9, List.forall_mem_cons.mpr ⟨lw_q_r12_10, List.forall_mem_cons.mpr ⟨lw_q_r12_11, List.forall_mem_cons.mpr ⟨lw_q_r12_12, List.forall_mem_cons.mpr ⟨lw_q_r12_13, List.forall_mem_cons.mpr ⟨lw_q_r12_14, List.forall_mem_cons.mpr ⟨lw_q_r12_15, List.forall_mem_cons.mpr ⟨lw_q_r12_16, List.forall_mem_cons.mpr ⟨lw_q_r12_17, List.forall_mem_cons.mpr ⟨lw_q_r12_18, List.forall_mem_cons.mpr ⟨lw_q_r12_19, List.forall_mem_cons.mpr ⟨lw_q_r12_20, List.forall_mem_cons.mpr ⟨lw_q_r12_21, List.forall_mem_cons.mpr ⟨lw_q_r12_22, List.forall_mem_cons.mpr ⟨lw_q_r12_23, fun _ h => absurd h List.not_mem_nil⟩⟩⟩⟩⟩⟩⟩⟩⟩⟩⟩⟩⟩⟩⟩⟩⟩⟩⟩⟩⟩⟩⟩⟩
theorem lw_q_r13_0 : (Cond.selects RX1 yX1_isProved yX1_isProved : Cond) ∈ lw_tbl := List.mem_of_getElem? (i := 649) (by decide +kernel)
theorem lw_q_r13_1 : (Cond.code yX1_isProved cX1_isProved 2 (some .boolean) : Cond) ∈ lw_tbl := List.mem_of_getElem? (i := 650) (by decide +kernel)
theorem lw_q_r13_2 : (Cond.methodLink RX1 104 yX1_proved : Cond) ∈ lw_tbl := List.mem_of_getElem? (i := 651) (by decide +kernel)
theorem lw_q_r13_3 : (Cond.instanceMethod yX1_proved : Cond) ∈ lw_tbl := List.mem_of_getElem? (i := 653) (by decide +kernel)
theorem lw_q_r13_4 : (Cond.selects RX1 yX1_proved yX1_proved : Cond) ∈ lw_tbl := List.mem_of_getElem? (i := 31) (by decide +kernel)
theorem lw_q_r13_5 : (Cond.code yX1_proved cX1_proved 4 (some .boolean) : Cond) ∈ lw_tbl := List.mem_of_getElem? (i := 654) (by decide +kernel)
theorem lw_q_r13_6 : (Cond.methodLink RL 121 yL_setsWith : Cond) ∈ lw_tbl := List.mem_of_getElem? (i := 455) (by decide +kernel)
theorem lw_q_r13_7 : (Cond.static yL_setsWith : Cond) ∈ lw_tbl := List.mem_of_getElem? (i := 456) (by decide +kernel)
theorem lw_q_r13_8 : (Cond.codeWith yL_setsWith cL_setsWith 4 (some .int) [(0, 9, 12, 25)] : Cond) ∈ lw_tbl := List.mem_of_getElem? (i := 457) (by decide +kernel)
theorem lw_q_r13_9 : (Cond.methodLink RL 47 yX0_setsWith : Cond) ∈ lw_tbl := List.mem_of_getElem? (i := 458) (by decide +kernel)
theorem lw_q_r13_10 : (Cond.instanceMethod yX0_setsWith : Cond) ∈ lw_tbl := List.mem_of_getElem? (i := 297) (by decide +kernel)
theorem lw_q_r13_11 : (Cond.selects RX0 yX0_setsWith yX0_setsWith : Cond) ∈ lw_tbl := List.mem_of_getElem? (i := 298) (by decide +kernel)
theorem lw_q_r13_12 : (Cond.code yX0_setsWith cX0_setsWith 2 (some .int) : Cond) ∈ lw_tbl := List.mem_of_getElem? (i := 299) (by decide +kernel)
theorem lw_q_r13_13 : (Cond.methodLink RX0 99 yX0_explanationsMeeting : Cond) ∈ lw_tbl := List.mem_of_getElem? (i := 241) (by decide +kernel)
theorem lw_q_r13_14 : (Cond.instanceMethod yX0_explanationsMeeting : Cond) ∈ lw_tbl := List.mem_of_getElem? (i := 243) (by decide +kernel)
theorem lw_q_r13_15 : (Cond.selects RX0 yX0_explanationsMeeting yX0_explanationsMeeting : Cond) ∈ lw_tbl := List.mem_of_getElem? (i := 4) (by decide +kernel)
theorem lw_q_r13_16 : (Cond.code yX0_explanationsMeeting cX0_explanationsMeeting 4 (some .int) : Cond) ∈ lw_tbl := List.mem_of_getElem? (i := 244) (by decide +kernel)
theorem lw_q_r13_17 : (Cond.methodLink RL 123 yX1_setsWith : Cond) ∈ lw_tbl := List.mem_of_getElem? (i := 655) (by decide +kernel)
theorem lw_q_r13_18 : (Cond.instanceMethod yX1_setsWith : Cond) ∈ lw_tbl := List.mem_of_getElem? (i := 656) (by decide +kernel)
theorem lw_q_r13_19 : (Cond.selects RX1 yX1_setsWith yX1_setsWith : Cond) ∈ lw_tbl := List.mem_of_getElem? (i := 657) (by decide +kernel)
theorem lw_q_r13_20 : (Cond.code yX1_setsWith cX1_setsWith 2 (some .int) : Cond) ∈ lw_tbl := List.mem_of_getElem? (i := 658) (by decide +kernel)
theorem lw_q_r13_21 : (Cond.methodLink RX1 107 yX1_withThing : Cond) ∈ lw_tbl := List.mem_of_getElem? (i := 659) (by decide +kernel)
theorem lw_q_r13_22 : (Cond.instanceMethod yX1_withThing : Cond) ∈ lw_tbl := List.mem_of_getElem? (i := 661) (by decide +kernel)
theorem lw_q_r13_23 : (Cond.selects RX1 yX1_withThing yX1_withThing : Cond) ∈ lw_tbl := List.mem_of_getElem? (i := 32) (by decide +kernel)
theorem lw_q_r13 : ∀ w ∈ wsL_law0_r13, w ∈ lw_tbl := List.forall_mem_cons.mpr ⟨lw_q_r13_0, List.forall_mem_cons.mpr ⟨lw_q_r13_1, List.forall_mem_cons.mpr ⟨lw_q_r13_2, List.forall_mem_cons.mpr ⟨lw_q_r13_3, List.forall_mem_cons.mpr ⟨lw_q_r13_4, List.forall_mem_cons.mpr ⟨lw_q_r13_5, List.forall_mem_cons.mpr ⟨lw_q_r13_6, List.forall_mem_cons.mpr ⟨lw_q_r13_7, List.forall_mem_cons.mpr ⟨lw_q_r13_8, List.forall_mem_cons.mpr ⟨lw_q_r13_9, List.forall_mem_cons.mpr ⟨lw_q_r13_10, List.forall_mem_cons.mpr ⟨lw_q_r13_11, List.forall_mem_cons.mpr ⟨lw_q_r13_12, List.forall_mem_cons.mpr ⟨lw_q_r13_13, List.forall_mem_cons.mpr ⟨lw_q_r13_14, List.forall_mem_cons.mpr ⟨lw_q_r13_15, List.forall_mem_cons.mpr ⟨lw_q_r13_16, List.forall_mem_cons.mpr ⟨lw_q_r13_17, List.forall_mem_cons.mpr ⟨lw_q_r13_18, List.forall_mem_cons.mpr ⟨lw_q_r13_19, List.forall_mem_cons.mpr ⟨lw_q_r13_20, List.forall_mem_cons.mpr ⟨lw_q_r13_21, List.forall_mem_cons.mpr ⟨lw_q_r13_22, List.forall_mem_cons.mpr ⟨lw_q_r13_23, fun _ h => absurd h List.not_mem_nil⟩⟩⟩⟩⟩⟩⟩⟩⟩⟩⟩⟩⟩⟩⟩⟩⟩⟩⟩⟩⟩⟩⟩⟩
theorem lw_q_r14_0 : (Cond.code yX1_withThing cX1_withThing 4 (some .int) : Cond) ∈ lw_tbl := List.mem_of_getElem? (i := 662) (by decide +kernel)
theorem lw_q_r14_1 : (Cond.methodLink RL 124 yX0_nights : Cond) ∈ lw_tbl := List.mem_of_getElem? (i := 95) (by decide +kernel)
theorem lw_q_r14_2 : (Cond.instanceMethod yX0_nights : Cond) ∈ lw_tbl := List.mem_of_getElem? (i := 96) (by decide +kernel)
theorem lw_q_r14_3 : (Cond.selects RX0 yX0_nights yX0_nights : Cond) ∈ lw_tbl := List.mem_of_getElem? (i := 97) (by decide +kernel)
theorem lw_q_r14_4 : (Cond.code yX0_nights cX0_nights 1 (some .int) : Cond) ∈ lw_tbl := List.mem_of_getElem? (i := 98) (by decide +kernel)
theorem lw_q_r14_5 : (Cond.methodLink RL 127 yX1_nights : Cond) ∈ lw_tbl := List.mem_of_getElem? (i := 663) (by decide +kernel)
theorem lw_q_r14_6 : (Cond.instanceMethod yX1_nights : Cond) ∈ lw_tbl := List.mem_of_getElem? (i := 664) (by decide +kernel)
theorem lw_q_r14_7 : (Cond.selects RX1 yX1_nights yX1_nights : Cond) ∈ lw_tbl := List.mem_of_getElem? (i := 665) (by decide +kernel)
theorem lw_q_r14_8 : (Cond.code yX1_nights cX1_nights 1 (some .int) : Cond) ∈ lw_tbl := List.mem_of_getElem? (i := 666) (by decide +kernel)
theorem lw_q_r14_9 : (Cond.methodLink RL 128 yX0_smudges : Cond) ∈ lw_tbl := List.mem_of_getElem? (i := 99) (by decide +kernel)
theorem lw_q_r14_10 : (Cond.instanceMethod yX0_smudges : Cond) ∈ lw_tbl := List.mem_of_getElem? (i := 100) (by decide +kernel)
theorem lw_q_r14_11 : (Cond.selects RX0 yX0_smudges yX0_smudges : Cond) ∈ lw_tbl := List.mem_of_getElem? (i := 101) (by decide +kernel)
theorem lw_q_r14_12 : (Cond.code yX0_smudges cX0_smudges 3 (some .int) : Cond) ∈ lw_tbl := List.mem_of_getElem? (i := 102) (by decide +kernel)
theorem lw_q_r14_13 : (Cond.methodLink RL 131 yX1_smudges : Cond) ∈ lw_tbl := List.mem_of_getElem? (i := 667) (by decide +kernel)
theorem lw_q_r14_14 : (Cond.instanceMethod yX1_smudges : Cond) ∈ lw_tbl := List.mem_of_getElem? (i := 668) (by decide +kernel)
theorem lw_q_r14_15 : (Cond.selects RX1 yX1_smudges yX1_smudges : Cond) ∈ lw_tbl := List.mem_of_getElem? (i := 669) (by decide +kernel)
theorem lw_q_r14_16 : (Cond.code yX1_smudges cX1_smudges 1 (some .int) : Cond) ∈ lw_tbl := List.mem_of_getElem? (i := 670) (by decide +kernel)
theorem lw_q_r14_17 : (Cond.methodLink RX1 110 yX1_smudgesNow : Cond) ∈ lw_tbl := List.mem_of_getElem? (i := 671) (by decide +kernel)
theorem lw_q_r14_18 : (Cond.instanceMethod yX1_smudgesNow : Cond) ∈ lw_tbl := List.mem_of_getElem? (i := 673) (by decide +kernel)
theorem lw_q_r14_19 : (Cond.selects RX1 yX1_smudgesNow yX1_smudgesNow : Cond) ∈ lw_tbl := List.mem_of_getElem? (i := 33) (by decide +kernel)
theorem lw_q_r14_20 : (Cond.code yX1_smudgesNow cX1_smudgesNow 3 (some .int) : Cond) ∈ lw_tbl := List.mem_of_getElem? (i := 674) (by decide +kernel)
theorem lw_q_r14_21 : (Cond.methodLink RL 132 yL_usedIn : Cond) ∈ lw_tbl := List.mem_of_getElem? (i := 459) (by decide +kernel)
theorem lw_q_r14_22 : (Cond.static yL_usedIn : Cond) ∈ lw_tbl := List.mem_of_getElem? (i := 460) (by decide +kernel)
theorem lw_q_r14_23 : (Cond.codeWith yL_usedIn cL_usedIn 4 (some .int) [(0, 9, 12, 25)] : Cond) ∈ lw_tbl := List.mem_of_getElem? (i := 461) (by decide +kernel)
theorem lw_q_r14 : ∀ w ∈ wsL_law0_r14, w ∈ lw_tbl := List.forall_mem_cons.mpr ⟨lw_q_r14_0, List.forall_mem_cons.mpr ⟨lw_q_r14_1, List.forall_mem_cons.mpr ⟨lw_q_r14_2, List.forall_mem_cons.mpr ⟨lw_q_r14_3, List.forall_mem_cons.mpr ⟨lw_q_r14_4, List.forall_mem_cons.mpr ⟨lw_q_r14_5, List.forall_mem_cons.mpr ⟨lw_q_r14_6, List.forall_mem_cons.mpr ⟨lw_q_r14_7, List.forall_mem_cons.mpr ⟨lw_q_r14_8, List.forall_mem_cons.mpr ⟨lw_q_r14_9, List.forall_mem_cons.mpr ⟨lw_q_r14_10, List.forall_mem_cons.mpr ⟨lw_q_r14_11, List.forall_mem_cons.mpr ⟨lw_q_r14_12, List.forall_mem_cons.mpr ⟨lw_q_r14_13, List.forall_mem_cons.mpr ⟨lw_q_r14_14, List.forall_mem_cons.mpr ⟨lw_q_r14_15, List.forall_mem_cons.mpr ⟨lw_q_r14_16, List.forall_mem_cons.mpr ⟨lw_q_r14_17, List.forall_mem_cons.mpr ⟨lw_q_r14_18, List.forall_mem_cons.mpr ⟨lw_q_r14_19, List.forall_mem_cons.mpr ⟨lw_q_r14_20, List.forall_mem_cons.mpr ⟨lw_q_r14_21, List.forall_mem_cons.mpr ⟨lw_q_r14_22, List.forall_mem_cons.mpr ⟨lw_q_r14_23, fun _ h => absurd h List.not_mem_nil⟩⟩⟩⟩⟩⟩⟩⟩⟩⟩⟩⟩⟩⟩⟩⟩⟩⟩⟩⟩⟩⟩⟩⟩
theorem lw_q_r15_0 : (Cond.methodLink RL 50 yX0_usedIn : Cond) ∈ lw_tbl := List.mem_of_getElem? (i := 462) (by decide +kernel)
theorem lw_q_r15_1 : (Cond.instanceMethod yX0_usedIn : Cond) ∈ lw_tbl := List.mem_of_getElem? (i := 305) (by decide +kernel)
theorem lw_q_r15_2 : (Cond.selects RX0 yX0_usedIn yX0_usedIn : Cond) ∈ lw_tbl := List.mem_of_getElem? (i := 306) (by decide +kernel)
theorem lw_q_r15_3 : (Cond.code yX0_usedIn cX0_usedIn 2 (some .int) : Cond) ∈ lw_tbl := List.mem_of_getElem? (i := 307) (by decide +kernel)
theorem lw_q_r15_4 : (Cond.methodLink RL 134 yX1_usedIn : Cond) ∈ lw_tbl := List.mem_of_getElem? (i := 675) (by decide +kernel)
theorem lw_q_r15_5 : (Cond.instanceMethod yX1_usedIn : Cond) ∈ lw_tbl := List.mem_of_getElem? (i := 676) (by decide +kernel)
theorem lw_q_r15_6 : (Cond.selects RX1 yX1_usedIn yX1_usedIn : Cond) ∈ lw_tbl := List.mem_of_getElem? (i := 677) (by decide +kernel)
theorem lw_q_r15_7 : (Cond.code yX1_usedIn cX1_usedIn 2 (some .int) : Cond) ∈ lw_tbl := List.mem_of_getElem? (i := 678) (by decide +kernel)
theorem lw_q_r15_8 : (Cond.methodLink RL 135 yL_isSmudged : Cond) ∈ lw_tbl := List.mem_of_getElem? (i := 463) (by decide +kernel)
theorem lw_q_r15_9 : (Cond.static yL_isSmudged : Cond) ∈ lw_tbl := List.mem_of_getElem? (i := 464) (by decide +kernel)
theorem lw_q_r15_10 : (Cond.codeWith yL_isSmudged cL_isSmudged 4 (some .int) [(0, 16, 19, 25)] : Cond) ∈ lw_tbl := List.mem_of_getElem? (i := 465) (by decide +kernel)
theorem lw_q_r15_11 : (Cond.methodLink RL 53 yX0_isSmudged : Cond) ∈ lw_tbl := List.mem_of_getElem? (i := 466) (by decide +kernel)
theorem lw_q_r15_12 : (Cond.instanceMethod yX0_isSmudged : Cond) ∈ lw_tbl := List.mem_of_getElem? (i := 314) (by decide +kernel)
theorem lw_q_r15_13 : (Cond.selects RX0 yX0_isSmudged yX0_isSmudged : Cond) ∈ lw_tbl := List.mem_of_getElem? (i := 315) (by decide +kernel)
theorem lw_q_r15_14 : (Cond.code yX0_isSmudged cX0_isSmudged 2 (some .boolean) : Cond) ∈ lw_tbl := List.mem_of_getElem? (i := 316) (by decide +kernel)
theorem lw_q_r15_15 : (Cond.methodLink RL 137 yX1_isSmudged : Cond) ∈ lw_tbl := List.mem_of_getElem? (i := 679) (by decide +kernel)
theorem lw_q_r15_16 : (Cond.instanceMethod yX1_isSmudged : Cond) ∈ lw_tbl := List.mem_of_getElem? (i := 680) (by decide +kernel)
theorem lw_q_r15_17 : (Cond.selects RX1 yX1_isSmudged yX1_isSmudged : Cond) ∈ lw_tbl := List.mem_of_getElem? (i := 681) (by decide +kernel)
theorem lw_q_r15_18 : (Cond.code yX1_isSmudged cX1_isSmudged 2 (some .boolean) : Cond) ∈ lw_tbl := List.mem_of_getElem? (i := 682) (by decide +kernel)
theorem lw_q_r15_19 : (Cond.methodLink RL 138 yX0_agree : Cond) ∈ lw_tbl := List.mem_of_getElem? (i := 103) (by decide +kernel)
theorem lw_q_r15_20 : (Cond.instanceMethod yX0_agree : Cond) ∈ lw_tbl := List.mem_of_getElem? (i := 104) (by decide +kernel)
theorem lw_q_r15_21 : (Cond.selects RX0 yX0_agree yX0_agree : Cond) ∈ lw_tbl := List.mem_of_getElem? (i := 105) (by decide +kernel)
theorem lw_q_r15_22 : (Cond.code yX0_agree cX0_agree 1 (some .boolean) : Cond) ∈ lw_tbl := List.mem_of_getElem? (i := 106) (by decide +kernel)
theorem lw_q_r15_23 : (Cond.methodLink RX0 102 yX0_nightsToDoubt : Cond) ∈ lw_tbl := List.mem_of_getElem? (i := 107) (by decide +kernel)
theorem lw_q_r15 : ∀ w ∈ wsL_law0_r15, w ∈ lw_tbl := List.forall_mem_cons.mpr ⟨lw_q_r15_0, List.forall_mem_cons.mpr ⟨lw_q_r15_1, List.forall_mem_cons.mpr ⟨lw_q_r15_2, List.forall_mem_cons.mpr ⟨lw_q_r15_3, List.forall_mem_cons.mpr ⟨lw_q_r15_4, List.forall_mem_cons.mpr ⟨lw_q_r15_5, List.forall_mem_cons.mpr ⟨lw_q_r15_6, List.forall_mem_cons.mpr ⟨lw_q_r15_7, List.forall_mem_cons.mpr ⟨lw_q_r15_8, List.forall_mem_cons.mpr ⟨lw_q_r15_9, List.forall_mem_cons.mpr ⟨lw_q_r15_10, List.forall_mem_cons.mpr ⟨lw_q_r15_11, List.forall_mem_cons.mpr ⟨lw_q_r15_12, List.forall_mem_cons.mpr ⟨lw_q_r15_13, List.forall_mem_cons.mpr ⟨lw_q_r15_14, List.forall_mem_cons.mpr ⟨lw_q_r15_15, List.forall_mem_cons.mpr ⟨lw_q_r15_16, List.forall_mem_cons.mpr ⟨lw_q_r15_17, List.forall_mem_cons.mpr ⟨lw_q_r15_18, List.forall_mem_cons.mpr ⟨lw_q_r15_19, List.forall_mem_cons.mpr ⟨lw_q_r15_20, List.forall_mem_cons.mpr ⟨lw_q_r15_21, List.forall_mem_cons.mpr ⟨lw_q_r15_22, List.forall_mem_cons.mpr ⟨lw_q_r15_23, fun _ h => absurd h List.not_mem_nil⟩⟩⟩⟩⟩⟩⟩⟩⟩⟩⟩⟩⟩⟩⟩⟩⟩⟩⟩⟩⟩⟩⟩⟩
theorem lw_q_r16_0 : (Cond.instanceMethod yX0_nightsToDoubt : Cond) ∈ lw_tbl := List.mem_of_getElem? (i := 108) (by decide +kernel)
theorem lw_q_r16_1 : (Cond.selects RX0 yX0_nightsToDoubt yX0_nightsToDoubt : Cond) ∈ lw_tbl := List.mem_of_getElem? (i := 109) (by decide +kernel)
theorem lw_q_r16_2 : (Cond.code yX0_nightsToDoubt cX0_nightsToDoubt 3 (some .int) : Cond) ∈ lw_tbl := List.mem_of_getElem? (i := 110) (by decide +kernel)
theorem lw_q_r16_3 : (Cond.methodLink RX0 123 Lib.Math.min.name : Cond) ∈ lw_tbl := List.mem_of_getElem? (i := 119) (by decide +kernel)
theorem lw_q_r16_4 : (Cond.static Lib.Math.min.name : Cond) ∈ lw_tbl := List.mem_of_getElem? (i := 120) (by decide +kernel)
theorem lw_q_r16_5 : (Cond.initialized "java/lang/Math" : Cond) ∈ lw_tbl := List.mem_of_getElem? (i := 49) (by decide +kernel)
theorem lw_q_r16_6 : (Cond.code Lib.Math.min.name Lib.Math.min.code 2 (some .int) : Cond) ∈ lw_tbl := List.mem_of_getElem? (i := 121) (by decide +kernel)
theorem lw_q_r16_7 : (Cond.methodLink RL 142 yX1_agree : Cond) ∈ lw_tbl := List.mem_of_getElem? (i := 683) (by decide +kernel)
theorem lw_q_r16_8 : (Cond.instanceMethod yX1_agree : Cond) ∈ lw_tbl := List.mem_of_getElem? (i := 684) (by decide +kernel)
theorem lw_q_r16_9 : (Cond.selects RX1 yX1_agree yX1_agree : Cond) ∈ lw_tbl := List.mem_of_getElem? (i := 685) (by decide +kernel)
theorem lw_q_r16_10 : (Cond.code yX1_agree cX1_agree 1 (some .boolean) : Cond) ∈ lw_tbl := List.mem_of_getElem? (i := 686) (by decide +kernel)
theorem lw_q_r16_11 : (Cond.methodLink RL 143 yX0_astronomers : Cond) ∈ lw_tbl := List.mem_of_getElem? (i := 122) (by decide +kernel)
theorem lw_q_r16_12 : (Cond.instanceMethod yX0_astronomers : Cond) ∈ lw_tbl := List.mem_of_getElem? (i := 123) (by decide +kernel)
theorem lw_q_r16_13 : (Cond.selects RX0 yX0_astronomers yX0_astronomers : Cond) ∈ lw_tbl := List.mem_of_getElem? (i := 124) (by decide +kernel)
theorem lw_q_r16_14 : (Cond.code yX0_astronomers cX0_astronomers 1 (some .int) : Cond) ∈ lw_tbl := List.mem_of_getElem? (i := 125) (by decide +kernel)
theorem lw_q_r16_15 : (Cond.methodLink RL 146 yX1_astronomers : Cond) ∈ lw_tbl := List.mem_of_getElem? (i := 687) (by decide +kernel)
theorem lw_q_r16_16 : (Cond.instanceMethod yX1_astronomers : Cond) ∈ lw_tbl := List.mem_of_getElem? (i := 688) (by decide +kernel)
theorem lw_q_r16_17 : (Cond.selects RX1 yX1_astronomers yX1_astronomers : Cond) ∈ lw_tbl := List.mem_of_getElem? (i := 689) (by decide +kernel)
theorem lw_q_r16_18 : (Cond.code yX1_astronomers cX1_astronomers 1 (some .int) : Cond) ∈ lw_tbl := List.mem_of_getElem? (i := 690) (by decide +kernel)
theorem lw_q_r16_19 : (Cond.methodLink RL 147 yL_blamedBy : Cond) ∈ lw_tbl := List.mem_of_getElem? (i := 467) (by decide +kernel)
theorem lw_q_r16_20 : (Cond.static yL_blamedBy : Cond) ∈ lw_tbl := List.mem_of_getElem? (i := 468) (by decide +kernel)
theorem lw_q_r16_21 : (Cond.codeWith yL_blamedBy cL_blamedBy 4 (some .int) [(0, 9, 12, 25)] : Cond) ∈ lw_tbl := List.mem_of_getElem? (i := 469) (by decide +kernel)
theorem lw_q_r16_22 : (Cond.methodLink RL 56 yX0_blamedBy : Cond) ∈ lw_tbl := List.mem_of_getElem? (i := 470) (by decide +kernel)
theorem lw_q_r16_23 : (Cond.instanceMethod yX0_blamedBy : Cond) ∈ lw_tbl := List.mem_of_getElem? (i := 322) (by decide +kernel)
theorem lw_q_r16 : ∀ w ∈ wsL_law0_r16, w ∈ lw_tbl := List.forall_mem_cons.mpr ⟨lw_q_r16_0, List.forall_mem_cons.mpr ⟨lw_q_r16_1, List.forall_mem_cons.mpr ⟨lw_q_r16_2, List.forall_mem_cons.mpr ⟨lw_q_r16_3, List.forall_mem_cons.mpr ⟨lw_q_r16_4, List.forall_mem_cons.mpr ⟨lw_q_r16_5, List.forall_mem_cons.mpr ⟨lw_q_r16_6, List.forall_mem_cons.mpr ⟨lw_q_r16_7, List.forall_mem_cons.mpr ⟨lw_q_r16_8, List.forall_mem_cons.mpr ⟨lw_q_r16_9, List.forall_mem_cons.mpr ⟨lw_q_r16_10, List.forall_mem_cons.mpr ⟨lw_q_r16_11, List.forall_mem_cons.mpr ⟨lw_q_r16_12, List.forall_mem_cons.mpr ⟨lw_q_r16_13, List.forall_mem_cons.mpr ⟨lw_q_r16_14, List.forall_mem_cons.mpr ⟨lw_q_r16_15, List.forall_mem_cons.mpr ⟨lw_q_r16_16, List.forall_mem_cons.mpr ⟨lw_q_r16_17, List.forall_mem_cons.mpr ⟨lw_q_r16_18, List.forall_mem_cons.mpr ⟨lw_q_r16_19, List.forall_mem_cons.mpr ⟨lw_q_r16_20, List.forall_mem_cons.mpr ⟨lw_q_r16_21, List.forall_mem_cons.mpr ⟨lw_q_r16_22, List.forall_mem_cons.mpr ⟨lw_q_r16_23, fun _ h => absurd h List.not_mem_nil⟩⟩⟩⟩⟩⟩⟩⟩⟩⟩⟩⟩⟩⟩⟩⟩⟩⟩⟩⟩⟩⟩⟩⟩
theorem lw_q_r17_0 : (Cond.selects RX0 yX0_blamedBy yX0_blamedBy : Cond) ∈ lw_tbl := List.mem_of_getElem? (i := 323) (by decide +kernel)
theorem lw_q_r17_1 : (Cond.code yX0_blamedBy cX0_blamedBy 2 (some .int) : Cond) ∈ lw_tbl := List.mem_of_getElem? (i := 324) (by decide +kernel)
theorem lw_q_r17_2 : (Cond.methodLink RL 149 yX1_blamedBy : Cond) ∈ lw_tbl := List.mem_of_getElem? (i := 691) (by decide +kernel)
theorem lw_q_r17_3 : (Cond.instanceMethod yX1_blamedBy : Cond) ∈ lw_tbl := List.mem_of_getElem? (i := 692) (by decide +kernel)
theorem lw_q_r17_4 : (Cond.selects RX1 yX1_blamedBy yX1_blamedBy : Cond) ∈ lw_tbl := List.mem_of_getElem? (i := 693) (by decide +kernel)
theorem lw_q_r17_5 : (Cond.code yX1_blamedBy cX1_blamedBy 2 (some .int) : Cond) ∈ lw_tbl := List.mem_of_getElem? (i := 694) (by decide +kernel)
theorem lw_q_r17_6 : (Cond.methodLink RL 150 yL_stubbornnessOf : Cond) ∈ lw_tbl := List.mem_of_getElem? (i := 471) (by decide +kernel)
theorem lw_q_r17_7 : (Cond.static yL_stubbornnessOf : Cond) ∈ lw_tbl := List.mem_of_getElem? (i := 472) (by decide +kernel)
theorem lw_q_r17_8 : (Cond.codeWith yL_stubbornnessOf cL_stubbornnessOf 4 (some .int) [(0, 9, 12, 25)] : Cond) ∈ lw_tbl := List.mem_of_getElem? (i := 473) (by decide +kernel)
theorem lw_q_r17_9 : (Cond.methodLink RL 59 yX0_stubbornnessOf : Cond) ∈ lw_tbl := List.mem_of_getElem? (i := 474) (by decide +kernel)
theorem lw_q_r17_10 : (Cond.instanceMethod yX0_stubbornnessOf : Cond) ∈ lw_tbl := List.mem_of_getElem? (i := 331) (by decide +kernel)
theorem lw_q_r17_11 : (Cond.selects RX0 yX0_stubbornnessOf yX0_stubbornnessOf : Cond) ∈ lw_tbl := List.mem_of_getElem? (i := 332) (by decide +kernel)
theorem lw_q_r17_12 : (Cond.code yX0_stubbornnessOf cX0_stubbornnessOf 2 (some .int) : Cond) ∈ lw_tbl := List.mem_of_getElem? (i := 333) (by decide +kernel)
theorem lw_q_r17_13 : (Cond.methodLink RL 152 yX1_stubbornnessOf : Cond) ∈ lw_tbl := List.mem_of_getElem? (i := 695) (by decide +kernel)
theorem lw_q_r17_14 : (Cond.instanceMethod yX1_stubbornnessOf : Cond) ∈ lw_tbl := List.mem_of_getElem? (i := 696) (by decide +kernel)
theorem lw_q_r17_15 : (Cond.selects RX1 yX1_stubbornnessOf yX1_stubbornnessOf : Cond) ∈ lw_tbl := List.mem_of_getElem? (i := 697) (by decide +kernel)
theorem lw_q_r17_16 : (Cond.code yX1_stubbornnessOf cX1_stubbornnessOf 2 (some .int) : Cond) ∈ lw_tbl := List.mem_of_getElem? (i := 698) (by decide +kernel)
theorem lw_q_r17_17 : (Cond.methodLink RL 153 yL_unexplainedBy : Cond) ∈ lw_tbl := List.mem_of_getElem? (i := 475) (by decide +kernel)
theorem lw_q_r17_18 : (Cond.static yL_unexplainedBy : Cond) ∈ lw_tbl := List.mem_of_getElem? (i := 476) (by decide +kernel)
theorem lw_q_r17_19 : (Cond.codeWith yL_unexplainedBy cL_unexplainedBy 4 (some .int) [(0, 9, 12, 25)] : Cond) ∈ lw_tbl := List.mem_of_getElem? (i := 477) (by decide +kernel)
theorem lw_q_r17_20 : (Cond.methodLink RL 62 yX0_unexplainedBy : Cond) ∈ lw_tbl := List.mem_of_getElem? (i := 478) (by decide +kernel)
theorem lw_q_r17_21 : (Cond.instanceMethod yX0_unexplainedBy : Cond) ∈ lw_tbl := List.mem_of_getElem? (i := 335) (by decide +kernel)
theorem lw_q_r17_22 : (Cond.selects RX0 yX0_unexplainedBy yX0_unexplainedBy : Cond) ∈ lw_tbl := List.mem_of_getElem? (i := 336) (by decide +kernel)
theorem lw_q_r17_23 : (Cond.code yX0_unexplainedBy cX0_unexplainedBy 2 (some .int) : Cond) ∈ lw_tbl := List.mem_of_getElem? (i := 337) (by decide +kernel)
theorem lw_q_r17 : ∀ w ∈ wsL_law0_r17, w ∈ lw_tbl := List.forall_mem_cons.mpr ⟨lw_q_r17_0, List.forall_mem_cons.mpr ⟨lw_q_r17_1, List.forall_mem_cons.mpr ⟨lw_q_r17_2, List.forall_mem_cons.mpr ⟨lw_q_r17_3, List.forall_mem_cons.mpr ⟨lw_q_r17_4, List.forall_mem_cons.mpr ⟨lw_q_r17_5, List.forall_mem_cons.mpr ⟨lw_q_r17_6, List.forall_mem_cons.mpr ⟨lw_q_r17_7, List.forall_mem_cons.mpr ⟨lw_q_r17_8, List.forall_mem_cons.mpr ⟨lw_q_r17_9, List.forall_mem_cons.mpr ⟨lw_q_r17_10, List.forall_mem_cons.mpr ⟨lw_q_r17_11, List.forall_mem_cons.mpr ⟨lw_q_r17_12, List.forall_mem_cons.mpr ⟨lw_q_r17_13, List.forall_mem_cons.mpr ⟨lw_q_r17_14, List.forall_mem_cons.mpr ⟨lw_q_r17_15, List.forall_mem_cons.mpr ⟨lw_q_r17_16, List.forall_mem_cons.mpr ⟨lw_q_r17_17, List.forall_mem_cons.mpr ⟨lw_q_r17_18, List.forall_mem_cons.mpr ⟨lw_q_r17_19, List.forall_mem_cons.mpr ⟨lw_q_r17_20, List.forall_mem_cons.mpr ⟨lw_q_r17_21, List.forall_mem_cons.mpr ⟨lw_q_r17_22, List.forall_mem_cons.mpr ⟨lw_q_r17_23, fun _ h => absurd h List.not_mem_nil⟩⟩⟩⟩⟩⟩⟩⟩⟩⟩⟩⟩⟩⟩⟩⟩⟩⟩⟩⟩⟩⟩⟩⟩
theorem lw_q_r18_0 : (Cond.methodLink RL 155 yX1_unexplainedBy : Cond) ∈ lw_tbl := List.mem_of_getElem? (i := 699) (by decide +kernel)
theorem lw_q_r18_1 : (Cond.instanceMethod yX1_unexplainedBy : Cond) ∈ lw_tbl := List.mem_of_getElem? (i := 700) (by decide +kernel)
theorem lw_q_r18_2 : (Cond.selects RX1 yX1_unexplainedBy yX1_unexplainedBy : Cond) ∈ lw_tbl := List.mem_of_getElem? (i := 701) (by decide +kernel)
theorem lw_q_r18_3 : (Cond.code yX1_unexplainedBy cX1_unexplainedBy 2 (some .int) : Cond) ∈ lw_tbl := List.mem_of_getElem? (i := 702) (by decide +kernel)
theorem lw_q_r18_4 : (Cond.methodLink RL 156 yL_votesFor : Cond) ∈ lw_tbl := List.mem_of_getElem? (i := 479) (by decide +kernel)
theorem lw_q_r18_5 : (Cond.static yL_votesFor : Cond) ∈ lw_tbl := List.mem_of_getElem? (i := 480) (by decide +kernel)
theorem lw_q_r18_6 : (Cond.codeWith yL_votesFor cL_votesFor 4 (some .int) [(0, 9, 12, 25)] : Cond) ∈ lw_tbl := List.mem_of_getElem? (i := 481) (by decide +kernel)
theorem lw_q_r18_7 : (Cond.methodLink RL 65 yX0_votesFor : Cond) ∈ lw_tbl := List.mem_of_getElem? (i := 482) (by decide +kernel)
theorem lw_q_r18_8 : (Cond.instanceMethod yX0_votesFor : Cond) ∈ lw_tbl := List.mem_of_getElem? (i := 131) (by decide +kernel)
theorem lw_q_r18_9 : (Cond.selects RX0 yX0_votesFor yX0_votesFor : Cond) ∈ lw_tbl := List.mem_of_getElem? (i := 132) (by decide +kernel)
theorem lw_q_r18_10 : (Cond.code yX0_votesFor cX0_votesFor 4 (some .int) : Cond) ∈ lw_tbl := List.mem_of_getElem? (i := 133) (by decide +kernel)
theorem lw_q_r18_11 : (Cond.methodLink RL 158 yX1_votesFor : Cond) ∈ lw_tbl := List.mem_of_getElem? (i := 703) (by decide +kernel)
theorem lw_q_r18_12 : (Cond.instanceMethod yX1_votesFor : Cond) ∈ lw_tbl := List.mem_of_getElem? (i := 704) (by decide +kernel)
theorem lw_q_r18_13 : (Cond.selects RX1 yX1_votesFor yX1_votesFor : Cond) ∈ lw_tbl := List.mem_of_getElem? (i := 705) (by decide +kernel)
theorem lw_q_r18_14 : (Cond.code yX1_votesFor cX1_votesFor 2 (some .int) : Cond) ∈ lw_tbl := List.mem_of_getElem? (i := 706) (by decide +kernel)
theorem lw_q_r18_15 : (Cond.methodLink RX1 113 yX1_votes : Cond) ∈ lw_tbl := List.mem_of_getElem? (i := 707) (by decide +kernel)
theorem lw_q_r18_16 : (Cond.instanceMethod yX1_votes : Cond) ∈ lw_tbl := List.mem_of_getElem? (i := 709) (by decide +kernel)
theorem lw_q_r18_17 : (Cond.selects RX1 yX1_votes yX1_votes : Cond) ∈ lw_tbl := List.mem_of_getElem? (i := 34) (by decide +kernel)
theorem lw_q_r18_18 : (Cond.code yX1_votes cX1_votes 4 (some .int) : Cond) ∈ lw_tbl := List.mem_of_getElem? (i := 710) (by decide +kernel)
theorem lw_q_r18_19 : (Cond.methodLink RL 159 yX0_vote : Cond) ∈ lw_tbl := List.mem_of_getElem? (i := 126) (by decide +kernel)
theorem lw_q_r18_20 : (Cond.instanceMethod yX0_vote : Cond) ∈ lw_tbl := List.mem_of_getElem? (i := 127) (by decide +kernel)
theorem lw_q_r18_21 : (Cond.selects RX0 yX0_vote yX0_vote : Cond) ∈ lw_tbl := List.mem_of_getElem? (i := 128) (by decide +kernel)
theorem lw_q_r18_22 : (Cond.code yX0_vote cX0_vote 3 (some .int) : Cond) ∈ lw_tbl := List.mem_of_getElem? (i := 129) (by decide +kernel)
theorem lw_q_r18_23 : (Cond.methodLink RX0 108 yX0_votesFor : Cond) ∈ lw_tbl := List.mem_of_getElem? (i := 130) (by decide +kernel)
theorem lw_q_r18 : ∀ w ∈ wsL_law0_r18, w ∈ lw_tbl := List.forall_mem_cons.mpr ⟨lw_q_r18_0, List.forall_mem_cons.mpr ⟨lw_q_r18_1, List.forall_mem_cons.mpr ⟨lw_q_r18_2, List.forall_mem_cons.mpr ⟨lw_q_r18_3, List.forall_mem_cons.mpr ⟨lw_q_r18_4, List.forall_mem_cons.mpr ⟨lw_q_r18_5, List.forall_mem_cons.mpr ⟨lw_q_r18_6, List.forall_mem_cons.mpr ⟨lw_q_r18_7, List.forall_mem_cons.mpr ⟨lw_q_r18_8, List.forall_mem_cons.mpr ⟨lw_q_r18_9, List.forall_mem_cons.mpr ⟨lw_q_r18_10, List.forall_mem_cons.mpr ⟨lw_q_r18_11, List.forall_mem_cons.mpr ⟨lw_q_r18_12, List.forall_mem_cons.mpr ⟨lw_q_r18_13, List.forall_mem_cons.mpr ⟨lw_q_r18_14, List.forall_mem_cons.mpr ⟨lw_q_r18_15, List.forall_mem_cons.mpr ⟨lw_q_r18_16, List.forall_mem_cons.mpr ⟨lw_q_r18_17, List.forall_mem_cons.mpr ⟨lw_q_r18_18, List.forall_mem_cons.mpr ⟨lw_q_r18_19, List.forall_mem_cons.mpr ⟨lw_q_r18_20, List.forall_mem_cons.mpr ⟨lw_q_r18_21, List.forall_mem_cons.mpr ⟨lw_q_r18_22, List.forall_mem_cons.mpr ⟨lw_q_r18_23, fun _ h => absurd h List.not_mem_nil⟩⟩⟩⟩⟩⟩⟩⟩⟩⟩⟩⟩⟩⟩⟩⟩⟩⟩⟩⟩⟩⟩⟩⟩
theorem lw_q_r19_0 : (Cond.methodLink RL 162 yX1_vote : Cond) ∈ lw_tbl := List.mem_of_getElem? (i := 711) (by decide +kernel)
theorem lw_q_r19_1 : (Cond.instanceMethod yX1_vote : Cond) ∈ lw_tbl := List.mem_of_getElem? (i := 712) (by decide +kernel)
theorem lw_q_r19_2 : (Cond.selects RX1 yX1_vote yX1_vote : Cond) ∈ lw_tbl := List.mem_of_getElem? (i := 713) (by decide +kernel)
theorem lw_q_r19_3 : (Cond.code yX1_vote cX1_vote 1 (some .int) : Cond) ∈ lw_tbl := List.mem_of_getElem? (i := 714) (by decide +kernel)
theorem lw_q_r19_4 : (Cond.methodLink RX1 116 yX1_voted : Cond) ∈ lw_tbl := List.mem_of_getElem? (i := 715) (by decide +kernel)
theorem lw_q_r19_5 : (Cond.instanceMethod yX1_voted : Cond) ∈ lw_tbl := List.mem_of_getElem? (i := 717) (by decide +kernel)
theorem lw_q_r19_6 : (Cond.selects RX1 yX1_voted yX1_voted : Cond) ∈ lw_tbl := List.mem_of_getElem? (i := 35) (by decide +kernel)
theorem lw_q_r19_7 : (Cond.code yX1_voted cX1_voted 3 (some .int) : Cond) ∈ lw_tbl := List.mem_of_getElem? (i := 718) (by decide +kernel)
theorem lw_q_r19_8 : (Cond.methodLink RL 163 yX0_changesOfMind : Cond) ∈ lw_tbl := List.mem_of_getElem? (i := 212) (by decide +kernel)
theorem lw_q_r19_9 : (Cond.instanceMethod yX0_changesOfMind : Cond) ∈ lw_tbl := List.mem_of_getElem? (i := 213) (by decide +kernel)
theorem lw_q_r19_10 : (Cond.selects RX0 yX0_changesOfMind yX0_changesOfMind : Cond) ∈ lw_tbl := List.mem_of_getElem? (i := 214) (by decide +kernel)
theorem lw_q_r19_11 : (Cond.code yX0_changesOfMind cX0_changesOfMind 1 (some .int) : Cond) ∈ lw_tbl := List.mem_of_getElem? (i := 215) (by decide +kernel)
theorem lw_q_r19_12 : (Cond.methodLink RL 166 yX1_changesOfMind : Cond) ∈ lw_tbl := List.mem_of_getElem? (i := 719) (by decide +kernel)
theorem lw_q_r19_13 : (Cond.instanceMethod yX1_changesOfMind : Cond) ∈ lw_tbl := List.mem_of_getElem? (i := 720) (by decide +kernel)
theorem lw_q_r19_14 : (Cond.selects RX1 yX1_changesOfMind yX1_changesOfMind : Cond) ∈ lw_tbl := List.mem_of_getElem? (i := 721) (by decide +kernel)
theorem lw_q_r19_15 : (Cond.code yX1_changesOfMind cX1_changesOfMind 1 (some .int) : Cond) ∈ lw_tbl := List.mem_of_getElem? (i := 722) (by decide +kernel)
theorem lw_q_r19_16 : (Cond.methodLink RL 167 yL_explainsAll : Cond) ∈ lw_tbl := List.mem_of_getElem? (i := 483) (by decide +kernel)
theorem lw_q_r19_17 : (Cond.static yL_explainsAll : Cond) ∈ lw_tbl := List.mem_of_getElem? (i := 484) (by decide +kernel)
theorem lw_q_r19_18 : (Cond.codeWith yL_explainsAll cL_explainsAll 4 (some .int) [(0, 16, 19, 19)] : Cond) ∈ lw_tbl := List.mem_of_getElem? (i := 485) (by decide +kernel)
theorem lw_q_r19_19 : (Cond.methodLink RL 68 yX0_explainsAll : Cond) ∈ lw_tbl := List.mem_of_getElem? (i := 486) (by decide +kernel)
theorem lw_q_r19_20 : (Cond.instanceMethod yX0_explainsAll : Cond) ∈ lw_tbl := List.mem_of_getElem? (i := 487) (by decide +kernel)
theorem lw_q_r19_21 : (Cond.selects RX0 yX0_explainsAll yX0_explainsAll : Cond) ∈ lw_tbl := List.mem_of_getElem? (i := 488) (by decide +kernel)
theorem lw_q_r19_22 : (Cond.code yX0_explainsAll cX0_explainsAll 2 (some .boolean) : Cond) ∈ lw_tbl := List.mem_of_getElem? (i := 489) (by decide +kernel)
theorem lw_q_r19_23 : (Cond.methodLink RL 169 yX1_explainsAll : Cond) ∈ lw_tbl := List.mem_of_getElem? (i := 723) (by decide +kernel)
theorem lw_q_r19 : ∀ w ∈ wsL_law0_r19, w ∈ lw_tbl := List.forall_mem_cons.mpr ⟨lw_q_r19_0, List.forall_mem_cons.mpr ⟨lw_q_r19_1, List.forall_mem_cons.mpr ⟨lw_q_r19_2, List.forall_mem_cons.mpr ⟨lw_q_r19_3, List.forall_mem_cons.mpr ⟨lw_q_r19_4, List.forall_mem_cons.mpr ⟨lw_q_r19_5, List.forall_mem_cons.mpr ⟨lw_q_r19_6, List.forall_mem_cons.mpr ⟨lw_q_r19_7, List.forall_mem_cons.mpr ⟨lw_q_r19_8, List.forall_mem_cons.mpr ⟨lw_q_r19_9, List.forall_mem_cons.mpr ⟨lw_q_r19_10, List.forall_mem_cons.mpr ⟨lw_q_r19_11, List.forall_mem_cons.mpr ⟨lw_q_r19_12, List.forall_mem_cons.mpr ⟨lw_q_r19_13, List.forall_mem_cons.mpr ⟨lw_q_r19_14, List.forall_mem_cons.mpr ⟨lw_q_r19_15, List.forall_mem_cons.mpr ⟨lw_q_r19_16, List.forall_mem_cons.mpr ⟨lw_q_r19_17, List.forall_mem_cons.mpr ⟨lw_q_r19_18, List.forall_mem_cons.mpr ⟨lw_q_r19_19, List.forall_mem_cons.mpr ⟨lw_q_r19_20, List.forall_mem_cons.mpr ⟨lw_q_r19_21, List.forall_mem_cons.mpr ⟨lw_q_r19_22, List.forall_mem_cons.mpr ⟨lw_q_r19_23, fun _ h => absurd h List.not_mem_nil⟩⟩⟩⟩⟩⟩⟩⟩⟩⟩⟩⟩⟩⟩⟩⟩⟩⟩⟩⟩⟩⟩⟩⟩
theorem lw_q_r20_0 : (Cond.instanceMethod yX1_explainsAll : Cond) ∈ lw_tbl := List.mem_of_getElem? (i := 724) (by decide +kernel)
theorem lw_q_r20_1 : (Cond.selects RX1 yX1_explainsAll yX1_explainsAll : Cond) ∈ lw_tbl := List.mem_of_getElem? (i := 725) (by decide +kernel)
theorem lw_q_r20_2 : (Cond.code yX1_explainsAll cX1_explainsAll 2 (some .boolean) : Cond) ∈ lw_tbl := List.mem_of_getElem? (i := 726) (by decide +kernel)
theorem lw_q_r20_3 : (Cond.methodLink RL 170 yX0_explanations : Cond) ∈ lw_tbl := List.mem_of_getElem? (i := 216) (by decide +kernel)
theorem lw_q_r20_4 : (Cond.instanceMethod yX0_explanations : Cond) ∈ lw_tbl := List.mem_of_getElem? (i := 217) (by decide +kernel)
theorem lw_q_r20_5 : (Cond.selects RX0 yX0_explanations yX0_explanations : Cond) ∈ lw_tbl := List.mem_of_getElem? (i := 218) (by decide +kernel)
theorem lw_q_r20_6 : (Cond.code yX0_explanations cX0_explanations 3 (some .int) : Cond) ∈ lw_tbl := List.mem_of_getElem? (i := 219) (by decide +kernel)
theorem lw_q_r20_7 : (Cond.methodLink RL 173 yX1_explanations : Cond) ∈ lw_tbl := List.mem_of_getElem? (i := 727) (by decide +kernel)
theorem lw_q_r20_8 : (Cond.instanceMethod yX1_explanations : Cond) ∈ lw_tbl := List.mem_of_getElem? (i := 728) (by decide +kernel)
theorem lw_q_r20_9 : (Cond.selects RX1 yX1_explanations yX1_explanations : Cond) ∈ lw_tbl := List.mem_of_getElem? (i := 729) (by decide +kernel)
theorem lw_q_r20_10 : (Cond.code yX1_explanations cX1_explanations 1 (some .int) : Cond) ∈ lw_tbl := List.mem_of_getElem? (i := 730) (by decide +kernel)
theorem lw_q_r20_11 : (Cond.methodLink RX1 119 yX1_explaining : Cond) ∈ lw_tbl := List.mem_of_getElem? (i := 731) (by decide +kernel)
theorem lw_q_r20_12 : (Cond.instanceMethod yX1_explaining : Cond) ∈ lw_tbl := List.mem_of_getElem? (i := 733) (by decide +kernel)
theorem lw_q_r20_13 : (Cond.selects RX1 yX1_explaining yX1_explaining : Cond) ∈ lw_tbl := List.mem_of_getElem? (i := 36) (by decide +kernel)
theorem lw_q_r20_14 : (Cond.code yX1_explaining cX1_explaining 3 (some .int) : Cond) ∈ lw_tbl := List.mem_of_getElem? (i := 734) (by decide +kernel)
theorem lw_q_r20_15 : (Cond.methodLink RL 174 yX0_simplest : Cond) ∈ lw_tbl := List.mem_of_getElem? (i := 220) (by decide +kernel)
theorem lw_q_r20_16 : (Cond.methodLink RL 177 yX1_simplest : Cond) ∈ lw_tbl := List.mem_of_getElem? (i := 735) (by decide +kernel)
theorem lw_q_r20_17 : (Cond.instanceMethod yX1_simplest : Cond) ∈ lw_tbl := List.mem_of_getElem? (i := 736) (by decide +kernel)
theorem lw_q_r20_18 : (Cond.selects RX1 yX1_simplest yX1_simplest : Cond) ∈ lw_tbl := List.mem_of_getElem? (i := 737) (by decide +kernel)
theorem lw_q_r20_19 : (Cond.code yX1_simplest cX1_simplest 1 (some .int) : Cond) ∈ lw_tbl := List.mem_of_getElem? (i := 738) (by decide +kernel)
theorem lw_q_r20_20 : (Cond.methodLink RL 178 yX0_surelyToBlame : Cond) ∈ lw_tbl := List.mem_of_getElem? (i := 230) (by decide +kernel)
theorem lw_q_r20_21 : (Cond.instanceMethod yX0_surelyToBlame : Cond) ∈ lw_tbl := List.mem_of_getElem? (i := 231) (by decide +kernel)
theorem lw_q_r20_22 : (Cond.selects RX0 yX0_surelyToBlame yX0_surelyToBlame : Cond) ∈ lw_tbl := List.mem_of_getElem? (i := 232) (by decide +kernel)
theorem lw_q_r20_23 : (Cond.code yX0_surelyToBlame cX0_surelyToBlame 3 (some .int) : Cond) ∈ lw_tbl := List.mem_of_getElem? (i := 233) (by decide +kernel)
theorem lw_q_r20 : ∀ w ∈ wsL_law0_r20, w ∈ lw_tbl := List.forall_mem_cons.mpr ⟨lw_q_r20_0, List.forall_mem_cons.mpr ⟨lw_q_r20_1, List.forall_mem_cons.mpr ⟨lw_q_r20_2, List.forall_mem_cons.mpr ⟨lw_q_r20_3, List.forall_mem_cons.mpr ⟨lw_q_r20_4, List.forall_mem_cons.mpr ⟨lw_q_r20_5, List.forall_mem_cons.mpr ⟨lw_q_r20_6, List.forall_mem_cons.mpr ⟨lw_q_r20_7, List.forall_mem_cons.mpr ⟨lw_q_r20_8, List.forall_mem_cons.mpr ⟨lw_q_r20_9, List.forall_mem_cons.mpr ⟨lw_q_r20_10, List.forall_mem_cons.mpr ⟨lw_q_r20_11, List.forall_mem_cons.mpr ⟨lw_q_r20_12, List.forall_mem_cons.mpr ⟨lw_q_r20_13, List.forall_mem_cons.mpr ⟨lw_q_r20_14, List.forall_mem_cons.mpr ⟨lw_q_r20_15, List.forall_mem_cons.mpr ⟨lw_q_r20_16, List.forall_mem_cons.mpr ⟨lw_q_r20_17, List.forall_mem_cons.mpr ⟨lw_q_r20_18, List.forall_mem_cons.mpr ⟨lw_q_r20_19, List.forall_mem_cons.mpr ⟨lw_q_r20_20, List.forall_mem_cons.mpr ⟨lw_q_r20_21, List.forall_mem_cons.mpr ⟨lw_q_r20_22, List.forall_mem_cons.mpr ⟨lw_q_r20_23, fun _ h => absurd h List.not_mem_nil⟩⟩⟩⟩⟩⟩⟩⟩⟩⟩⟩⟩⟩⟩⟩⟩⟩⟩⟩⟩⟩⟩⟩⟩
theorem lw_q_r21_0 : (Cond.methodLink RX0 119 yX0_agree : Cond) ∈ lw_tbl := List.mem_of_getElem? (i := 234) (by decide +kernel)
theorem lw_q_r21_1 : (Cond.methodLink RL 181 yX1_surelyToBlame : Cond) ∈ lw_tbl := List.mem_of_getElem? (i := 739) (by decide +kernel)
theorem lw_q_r21_2 : (Cond.instanceMethod yX1_surelyToBlame : Cond) ∈ lw_tbl := List.mem_of_getElem? (i := 740) (by decide +kernel)
theorem lw_q_r21_3 : (Cond.selects RX1 yX1_surelyToBlame yX1_surelyToBlame : Cond) ∈ lw_tbl := List.mem_of_getElem? (i := 741) (by decide +kernel)
theorem lw_q_r21_4 : (Cond.code yX1_surelyToBlame cX1_surelyToBlame 1 (some .int) : Cond) ∈ lw_tbl := List.mem_of_getElem? (i := 742) (by decide +kernel)
theorem lw_q_r21_5 : (Cond.methodLink RX1 122 yX1_inAll : Cond) ∈ lw_tbl := List.mem_of_getElem? (i := 743) (by decide +kernel)
theorem lw_q_r21_6 : (Cond.instanceMethod yX1_inAll : Cond) ∈ lw_tbl := List.mem_of_getElem? (i := 745) (by decide +kernel)
theorem lw_q_r21_7 : (Cond.selects RX1 yX1_inAll yX1_inAll : Cond) ∈ lw_tbl := List.mem_of_getElem? (i := 37) (by decide +kernel)
theorem lw_q_r21_8 : (Cond.code yX1_inAll cX1_inAll 3 (some .int) : Cond) ∈ lw_tbl := List.mem_of_getElem? (i := 746) (by decide +kernel)
theorem lw_q_r21_9 : (Cond.methodLink RL 182 yX0_nightsToDoubt : Cond) ∈ lw_tbl := List.mem_of_getElem? (i := 235) (by decide +kernel)
theorem lw_q_r21_10 : (Cond.methodLink RL 185 yX1_nightsToDoubt : Cond) ∈ lw_tbl := List.mem_of_getElem? (i := 747) (by decide +kernel)
theorem lw_q_r21_11 : (Cond.instanceMethod yX1_nightsToDoubt : Cond) ∈ lw_tbl := List.mem_of_getElem? (i := 748) (by decide +kernel)
theorem lw_q_r21_12 : (Cond.selects RX1 yX1_nightsToDoubt yX1_nightsToDoubt : Cond) ∈ lw_tbl := List.mem_of_getElem? (i := 749) (by decide +kernel)
theorem lw_q_r21_13 : (Cond.code yX1_nightsToDoubt cX1_nightsToDoubt 3 (some .int) : Cond) ∈ lw_tbl := List.mem_of_getElem? (i := 750) (by decide +kernel)
theorem lw_q_r21_14 : (Cond.methodLink RX1 125 Lib.Math.min.name : Cond) ∈ lw_tbl := List.mem_of_getElem? (i := 751) (by decide +kernel)
theorem lw_q_r21_15 : (Cond.methodLink RL 186 yL_leftIfSmudged : Cond) ∈ lw_tbl := List.mem_of_getElem? (i := 490) (by decide +kernel)
theorem lw_q_r21_16 : (Cond.static yL_leftIfSmudged : Cond) ∈ lw_tbl := List.mem_of_getElem? (i := 491) (by decide +kernel)
theorem lw_q_r21_17 : (Cond.codeWith yL_leftIfSmudged cL_leftIfSmudged 4 (some .int) [(0, 9, 12, 19)] : Cond) ∈ lw_tbl := List.mem_of_getElem? (i := 492) (by decide +kernel)
theorem lw_q_r21_18 : (Cond.methodLink RL 71 yX0_leftIfSmudged : Cond) ∈ lw_tbl := List.mem_of_getElem? (i := 493) (by decide +kernel)
theorem lw_q_r21_19 : (Cond.instanceMethod yX0_leftIfSmudged : Cond) ∈ lw_tbl := List.mem_of_getElem? (i := 494) (by decide +kernel)
theorem lw_q_r21_20 : (Cond.selects RX0 yX0_leftIfSmudged yX0_leftIfSmudged : Cond) ∈ lw_tbl := List.mem_of_getElem? (i := 495) (by decide +kernel)
theorem lw_q_r21_21 : (Cond.code yX0_leftIfSmudged cX0_leftIfSmudged 2 (some .int) : Cond) ∈ lw_tbl := List.mem_of_getElem? (i := 496) (by decide +kernel)
theorem lw_q_r21_22 : (Cond.methodLink RL 188 yX1_leftIfSmudged : Cond) ∈ lw_tbl := List.mem_of_getElem? (i := 752) (by decide +kernel)
theorem lw_q_r21_23 : (Cond.instanceMethod yX1_leftIfSmudged : Cond) ∈ lw_tbl := List.mem_of_getElem? (i := 753) (by decide +kernel)
theorem lw_q_r21 : ∀ w ∈ wsL_law0_r21, w ∈ lw_tbl := List.forall_mem_cons.mpr ⟨lw_q_r21_0, List.forall_mem_cons.mpr ⟨lw_q_r21_1, List.forall_mem_cons.mpr ⟨lw_q_r21_2, List.forall_mem_cons.mpr ⟨lw_q_r21_3, List.forall_mem_cons.mpr ⟨lw_q_r21_4, List.forall_mem_cons.mpr ⟨lw_q_r21_5, List.forall_mem_cons.mpr ⟨lw_q_r21_6, List.forall_mem_cons.mpr ⟨lw_q_r21_7, List.forall_mem_cons.mpr ⟨lw_q_r21_8, List.forall_mem_cons.mpr ⟨lw_q_r21_9, List.forall_mem_cons.mpr ⟨lw_q_r21_10, List.forall_mem_cons.mpr ⟨lw_q_r21_11, List.forall_mem_cons.mpr ⟨lw_q_r21_12, List.forall_mem_cons.mpr ⟨lw_q_r21_13, List.forall_mem_cons.mpr ⟨lw_q_r21_14, List.forall_mem_cons.mpr ⟨lw_q_r21_15, List.forall_mem_cons.mpr ⟨lw_q_r21_16, List.forall_mem_cons.mpr ⟨lw_q_r21_17, List.forall_mem_cons.mpr ⟨lw_q_r21_18, List.forall_mem_cons.mpr ⟨lw_q_r21_19, List.forall_mem_cons.mpr ⟨lw_q_r21_20, List.forall_mem_cons.mpr ⟨lw_q_r21_21, List.forall_mem_cons.mpr ⟨lw_q_r21_22, List.forall_mem_cons.mpr ⟨lw_q_r21_23, fun _ h => absurd h List.not_mem_nil⟩⟩⟩⟩⟩⟩⟩⟩⟩⟩⟩⟩⟩⟩⟩⟩⟩⟩⟩⟩⟩⟩⟩⟩
theorem lw_q_r22_0 : (Cond.selects RX1 yX1_leftIfSmudged yX1_leftIfSmudged : Cond) ∈ lw_tbl := List.mem_of_getElem? (i := 754) (by decide +kernel)
theorem lw_q_r22_1 : (Cond.code yX1_leftIfSmudged cX1_leftIfSmudged 2 (some .int) : Cond) ∈ lw_tbl := List.mem_of_getElem? (i := 755) (by decide +kernel)
theorem lw_q_r22_2 : (Cond.methodLink RX1 131 yX1_meeting : Cond) ∈ lw_tbl := List.mem_of_getElem? (i := 756) (by decide +kernel)
theorem lw_q_r22_3 : (Cond.instanceMethod yX1_meeting : Cond) ∈ lw_tbl := List.mem_of_getElem? (i := 758) (by decide +kernel)
theorem lw_q_r22_4 : (Cond.selects RX1 yX1_meeting yX1_meeting : Cond) ∈ lw_tbl := List.mem_of_getElem? (i := 38) (by decide +kernel)
theorem lw_q_r22_5 : (Cond.code yX1_meeting cX1_meeting 4 (some .int) : Cond) ∈ lw_tbl := List.mem_of_getElem? (i := 759) (by decide +kernel)
theorem lw_q_r22_6 : (Cond.methodLink RL 189 yX0_bestNight : Cond) ∈ lw_tbl := List.mem_of_getElem? (i := 236) (by decide +kernel)
theorem lw_q_r22_7 : (Cond.instanceMethod yX0_bestNight : Cond) ∈ lw_tbl := List.mem_of_getElem? (i := 237) (by decide +kernel)
theorem lw_q_r22_8 : (Cond.selects RX0 yX0_bestNight yX0_bestNight : Cond) ∈ lw_tbl := List.mem_of_getElem? (i := 238) (by decide +kernel)
theorem lw_q_r22_9 : (Cond.code yX0_bestNight cX0_bestNight 8 (some .int) : Cond) ∈ lw_tbl := List.mem_of_getElem? (i := 239) (by decide +kernel)
theorem lw_q_r22_10 : (Cond.methodLink RX0 132 Lib.Math.max.name : Cond) ∈ lw_tbl := List.mem_of_getElem? (i := 245) (by decide +kernel)
theorem lw_q_r22_11 : (Cond.static Lib.Math.max.name : Cond) ∈ lw_tbl := List.mem_of_getElem? (i := 246) (by decide +kernel)
theorem lw_q_r22_12 : (Cond.code Lib.Math.max.name Lib.Math.max.code 2 (some .int) : Cond) ∈ lw_tbl := List.mem_of_getElem? (i := 247) (by decide +kernel)
theorem lw_q_r22_13 : (Cond.methodLink RX0 129 yX0_explanations : Cond) ∈ lw_tbl := List.mem_of_getElem? (i := 240) (by decide +kernel)
theorem lw_q_r22_14 : (Cond.methodLink RL 192 yX1_bestNight : Cond) ∈ lw_tbl := List.mem_of_getElem? (i := 760) (by decide +kernel)
theorem lw_q_r22_15 : (Cond.instanceMethod yX1_bestNight : Cond) ∈ lw_tbl := List.mem_of_getElem? (i := 761) (by decide +kernel)
theorem lw_q_r22_16 : (Cond.selects RX1 yX1_bestNight yX1_bestNight : Cond) ∈ lw_tbl := List.mem_of_getElem? (i := 762) (by decide +kernel)
theorem lw_q_r22_17 : (Cond.code yX1_bestNight cX1_bestNight 7 (some .int) : Cond) ∈ lw_tbl := List.mem_of_getElem? (i := 763) (by decide +kernel)
theorem lw_q_r22_18 : (Cond.methodLink RX1 134 Lib.Math.max.name : Cond) ∈ lw_tbl := List.mem_of_getElem? (i := 764) (by decide +kernel)
theorem lw_q_r22_19 : (Cond.methodLink RL 193 yL_wouldChange : Cond) ∈ lw_tbl := List.mem_of_getElem? (i := 497) (by decide +kernel)
theorem lw_q_r22_20 : (Cond.static yL_wouldChange : Cond) ∈ lw_tbl := List.mem_of_getElem? (i := 498) (by decide +kernel)
theorem lw_q_r22_21 : (Cond.codeWith yL_wouldChange cL_wouldChange 5 (some .int) [(0, 10, 13, 19), (0, 10, 17, 13)] : Cond) ∈ lw_tbl := List.mem_of_getElem? (i := 499) (by decide +kernel)
theorem lw_q_r22_22 : (Cond.methodLink RL 74 yX0_wouldChange : Cond) ∈ lw_tbl := List.mem_of_getElem? (i := 500) (by decide +kernel)
theorem lw_q_r22_23 : (Cond.instanceMethod yX0_wouldChange : Cond) ∈ lw_tbl := List.mem_of_getElem? (i := 501) (by decide +kernel)
theorem lw_q_r22 : ∀ w ∈ wsL_law0_r22, w ∈ lw_tbl := List.forall_mem_cons.mpr ⟨lw_q_r22_0, List.forall_mem_cons.mpr ⟨lw_q_r22_1, List.forall_mem_cons.mpr ⟨lw_q_r22_2, List.forall_mem_cons.mpr ⟨lw_q_r22_3, List.forall_mem_cons.mpr ⟨lw_q_r22_4, List.forall_mem_cons.mpr ⟨lw_q_r22_5, List.forall_mem_cons.mpr ⟨lw_q_r22_6, List.forall_mem_cons.mpr ⟨lw_q_r22_7, List.forall_mem_cons.mpr ⟨lw_q_r22_8, List.forall_mem_cons.mpr ⟨lw_q_r22_9, List.forall_mem_cons.mpr ⟨lw_q_r22_10, List.forall_mem_cons.mpr ⟨lw_q_r22_11, List.forall_mem_cons.mpr ⟨lw_q_r22_12, List.forall_mem_cons.mpr ⟨lw_q_r22_13, List.forall_mem_cons.mpr ⟨lw_q_r22_14, List.forall_mem_cons.mpr ⟨lw_q_r22_15, List.forall_mem_cons.mpr ⟨lw_q_r22_16, List.forall_mem_cons.mpr ⟨lw_q_r22_17, List.forall_mem_cons.mpr ⟨lw_q_r22_18, List.forall_mem_cons.mpr ⟨lw_q_r22_19, List.forall_mem_cons.mpr ⟨lw_q_r22_20, List.forall_mem_cons.mpr ⟨lw_q_r22_21, List.forall_mem_cons.mpr ⟨lw_q_r22_22, List.forall_mem_cons.mpr ⟨lw_q_r22_23, fun _ h => absurd h List.not_mem_nil⟩⟩⟩⟩⟩⟩⟩⟩⟩⟩⟩⟩⟩⟩⟩⟩⟩⟩⟩⟩⟩⟩⟩⟩
theorem lw_q_r23_0 : (Cond.selects RX0 yX0_wouldChange yX0_wouldChange : Cond) ∈ lw_tbl := List.mem_of_getElem? (i := 502) (by decide +kernel)
theorem lw_q_r23_1 : (Cond.code yX0_wouldChange cX0_wouldChange 5 (some .int) : Cond) ∈ lw_tbl := List.mem_of_getElem? (i := 503) (by decide +kernel)
theorem lw_q_r23_2 : (Cond.methodLink RX0 135 yX0_wouldAgreeWith : Cond) ∈ lw_tbl := List.mem_of_getElem? (i := 504) (by decide +kernel)
theorem lw_q_r23_3 : (Cond.instanceMethod yX0_wouldAgreeWith : Cond) ∈ lw_tbl := List.mem_of_getElem? (i := 506) (by decide +kernel)
theorem lw_q_r23_4 : (Cond.selects RX0 yX0_wouldAgreeWith yX0_wouldAgreeWith : Cond) ∈ lw_tbl := List.mem_of_getElem? (i := 17) (by decide +kernel)
theorem lw_q_r23_5 : (Cond.code yX0_wouldAgreeWith cX0_wouldAgreeWith 4 (some .boolean) : Cond) ∈ lw_tbl := List.mem_of_getElem? (i := 507) (by decide +kernel)
theorem lw_q_r23_6 : (Cond.methodLink RL 195 yX1_wouldChange : Cond) ∈ lw_tbl := List.mem_of_getElem? (i := 765) (by decide +kernel)
theorem lw_q_r23_7 : (Cond.instanceMethod yX1_wouldChange : Cond) ∈ lw_tbl := List.mem_of_getElem? (i := 766) (by decide +kernel)
theorem lw_q_r23_8 : (Cond.selects RX1 yX1_wouldChange yX1_wouldChange : Cond) ∈ lw_tbl := List.mem_of_getElem? (i := 767) (by decide +kernel)
theorem lw_q_r23_9 : (Cond.code yX1_wouldChange cX1_wouldChange 6 (some .int) : Cond) ∈ lw_tbl := List.mem_of_getElem? (i := 768) (by decide +kernel)
theorem lw_q_r23_10 : (Cond.methodLink RL 196 yX0_meanBlame : Cond) ∈ lw_tbl := List.mem_of_getElem? (i := 248) (by decide +kernel)
theorem lw_q_r23_11 : (Cond.instanceMethod yX0_meanBlame : Cond) ∈ lw_tbl := List.mem_of_getElem? (i := 249) (by decide +kernel)
theorem lw_q_r23_12 : (Cond.selects RX0 yX0_meanBlame yX0_meanBlame : Cond) ∈ lw_tbl := List.mem_of_getElem? (i := 250) (by decide +kernel)
theorem lw_q_r23_13 : (Cond.code yX0_meanBlame cX0_meanBlame 3 (some .double) : Cond) ∈ lw_tbl := List.mem_of_getElem? (i := 251) (by decide +kernel)
theorem lw_q_r23_14 : (Cond.methodLink RL 200 yX1_meanBlame : Cond) ∈ lw_tbl := List.mem_of_getElem? (i := 769) (by decide +kernel)
theorem lw_q_r23_15 : (Cond.instanceMethod yX1_meanBlame : Cond) ∈ lw_tbl := List.mem_of_getElem? (i := 770) (by decide +kernel)
theorem lw_q_r23_16 : (Cond.selects RX1 yX1_meanBlame yX1_meanBlame : Cond) ∈ lw_tbl := List.mem_of_getElem? (i := 771) (by decide +kernel)
theorem lw_q_r23_17 : (Cond.code yX1_meanBlame cX1_meanBlame 3 (some .double) : Cond) ∈ lw_tbl := List.mem_of_getElem? (i := 772) (by decide +kernel)
theorem lw_q_r23_18 : (Cond.methodLink RL 201 yX0_digest : Cond) ∈ lw_tbl := List.mem_of_getElem? (i := 252) (by decide +kernel)
theorem lw_q_r23_19 : (Cond.instanceMethod yX0_digest : Cond) ∈ lw_tbl := List.mem_of_getElem? (i := 253) (by decide +kernel)
theorem lw_q_r23_20 : (Cond.selects RX0 yX0_digest yX0_digest : Cond) ∈ lw_tbl := List.mem_of_getElem? (i := 254) (by decide +kernel)
theorem lw_q_r23_21 : (Cond.code yX0_digest cX0_digest 3 (some .long) : Cond) ∈ lw_tbl := List.mem_of_getElem? (i := 255) (by decide +kernel)
theorem lw_q_r23_22 : (Cond.constantLong RX0 143 (1951) : Cond) ∈ lw_tbl := List.mem_of_getElem? (i := 256) (by decide +kernel)
theorem lw_q_r23_23 : (Cond.methodLink RX0 145 yX0_things : Cond) ∈ lw_tbl := List.mem_of_getElem? (i := 257) (by decide +kernel)
theorem lw_q_r23 : ∀ w ∈ wsL_law0_r23, w ∈ lw_tbl := List.forall_mem_cons.mpr ⟨lw_q_r23_0, List.forall_mem_cons.mpr ⟨lw_q_r23_1, List.forall_mem_cons.mpr ⟨lw_q_r23_2, List.forall_mem_cons.mpr ⟨lw_q_r23_3, List.forall_mem_cons.mpr ⟨lw_q_r23_4, List.forall_mem_cons.mpr ⟨lw_q_r23_5, List.forall_mem_cons.mpr ⟨lw_q_r23_6, List.forall_mem_cons.mpr ⟨lw_q_r23_7, List.forall_mem_cons.mpr ⟨lw_q_r23_8, List.forall_mem_cons.mpr ⟨lw_q_r23_9, List.forall_mem_cons.mpr ⟨lw_q_r23_10, List.forall_mem_cons.mpr ⟨lw_q_r23_11, List.forall_mem_cons.mpr ⟨lw_q_r23_12, List.forall_mem_cons.mpr ⟨lw_q_r23_13, List.forall_mem_cons.mpr ⟨lw_q_r23_14, List.forall_mem_cons.mpr ⟨lw_q_r23_15, List.forall_mem_cons.mpr ⟨lw_q_r23_16, List.forall_mem_cons.mpr ⟨lw_q_r23_17, List.forall_mem_cons.mpr ⟨lw_q_r23_18, List.forall_mem_cons.mpr ⟨lw_q_r23_19, List.forall_mem_cons.mpr ⟨lw_q_r23_20, List.forall_mem_cons.mpr ⟨lw_q_r23_21, List.forall_mem_cons.mpr ⟨lw_q_r23_22, List.forall_mem_cons.mpr ⟨lw_q_r23_23, fun _ h => absurd h List.not_mem_nil⟩⟩⟩⟩⟩⟩⟩⟩⟩⟩⟩⟩⟩⟩⟩⟩⟩⟩⟩⟩⟩⟩⟩⟩
theorem lw_q_r24_0 : (Cond.methodLink RX0 148 yX0_mixed : Cond) ∈ lw_tbl := List.mem_of_getElem? (i := 258) (by decide +kernel)
theorem lw_q_r24_1 : (Cond.static yX0_mixed : Cond) ∈ lw_tbl := List.mem_of_getElem? (i := 259) (by decide +kernel)
theorem lw_q_r24_2 : (Cond.code yX0_mixed cX0_mixed 4 (some .long) : Cond) ∈ lw_tbl := List.mem_of_getElem? (i := 260) (by decide +kernel)
theorem lw_q_r24_3 : (Cond.constantLong RX0 202 (31) : Cond) ∈ lw_tbl := List.mem_of_getElem? (i := 261) (by decide +kernel)
theorem lw_q_r24_4 : (Cond.methodLink RX0 152 yX0_nights : Cond) ∈ lw_tbl := List.mem_of_getElem? (i := 262) (by decide +kernel)
theorem lw_q_r24_5 : (Cond.methodLink RX0 155 yX0_smudges : Cond) ∈ lw_tbl := List.mem_of_getElem? (i := 263) (by decide +kernel)
theorem lw_q_r24_6 : (Cond.methodLink RX0 158 yX0_oneIf : Cond) ∈ lw_tbl := List.mem_of_getElem? (i := 264) (by decide +kernel)
theorem lw_q_r24_7 : (Cond.static yX0_oneIf : Cond) ∈ lw_tbl := List.mem_of_getElem? (i := 265) (by decide +kernel)
theorem lw_q_r24_8 : (Cond.code yX0_oneIf cX0_oneIf 1 (some .long) : Cond) ∈ lw_tbl := List.mem_of_getElem? (i := 266) (by decide +kernel)
theorem lw_q_r24_9 : (Cond.methodLink RX0 162 yX0_astronomers : Cond) ∈ lw_tbl := List.mem_of_getElem? (i := 267) (by decide +kernel)
theorem lw_q_r24_10 : (Cond.methodLink RX0 165 yX0_vote : Cond) ∈ lw_tbl := List.mem_of_getElem? (i := 268) (by decide +kernel)
theorem lw_q_r24_11 : (Cond.methodLink RX0 168 yX0_changesOfMind : Cond) ∈ lw_tbl := List.mem_of_getElem? (i := 269) (by decide +kernel)
theorem lw_q_r24_12 : (Cond.methodLink RX0 174 yX0_surelyToBlame : Cond) ∈ lw_tbl := List.mem_of_getElem? (i := 271) (by decide +kernel)
theorem lw_q_r24_13 : (Cond.methodLink RX0 177 yX0_mixedWithThings : Cond) ∈ lw_tbl := List.mem_of_getElem? (i := 272) (by decide +kernel)
theorem lw_q_r24_14 : (Cond.instanceMethod yX0_mixedWithThings : Cond) ∈ lw_tbl := List.mem_of_getElem? (i := 274) (by decide +kernel)
theorem lw_q_r24_15 : (Cond.selects RX0 yX0_mixedWithThings yX0_mixedWithThings : Cond) ∈ lw_tbl := List.mem_of_getElem? (i := 5) (by decide +kernel)
theorem lw_q_r24_16 : (Cond.code yX0_mixedWithThings cX0_mixedWithThings 6 (some .long) : Cond) ∈ lw_tbl := List.mem_of_getElem? (i := 275) (by decide +kernel)
theorem lw_q_r24_17 : (Cond.methodLink RX0 204 yX0_nightsWith : Cond) ∈ lw_tbl := List.mem_of_getElem? (i := 276) (by decide +kernel)
theorem lw_q_r24_18 : (Cond.methodLink RX0 207 yX0_smudgesWith : Cond) ∈ lw_tbl := List.mem_of_getElem? (i := 280) (by decide +kernel)
theorem lw_q_r24_19 : (Cond.methodLink RX0 210 yX0_isCleared : Cond) ∈ lw_tbl := List.mem_of_getElem? (i := 284) (by decide +kernel)
theorem lw_q_r24_20 : (Cond.methodLink RX0 214 yX0_isProved : Cond) ∈ lw_tbl := List.mem_of_getElem? (i := 292) (by decide +kernel)
theorem lw_q_r24_21 : (Cond.methodLink RX0 217 yX0_setsWith : Cond) ∈ lw_tbl := List.mem_of_getElem? (i := 296) (by decide +kernel)
theorem lw_q_r24_22 : (Cond.methodLink RX0 181 yX0_mixedWithNights : Cond) ∈ lw_tbl := List.mem_of_getElem? (i := 300) (by decide +kernel)
theorem lw_q_r24_23 : (Cond.instanceMethod yX0_mixedWithNights : Cond) ∈ lw_tbl := List.mem_of_getElem? (i := 302) (by decide +kernel)
theorem lw_q_r24 : ∀ w ∈ wsL_law0_r24, w ∈ lw_tbl := List.forall_mem_cons.mpr ⟨lw_q_r24_0, List.forall_mem_cons.mpr ⟨lw_q_r24_1, List.forall_mem_cons.mpr ⟨lw_q_r24_2, List.forall_mem_cons.mpr ⟨lw_q_r24_3, List.forall_mem_cons.mpr ⟨lw_q_r24_4, List.forall_mem_cons.mpr ⟨lw_q_r24_5, List.forall_mem_cons.mpr ⟨lw_q_r24_6, List.forall_mem_cons.mpr ⟨lw_q_r24_7, List.forall_mem_cons.mpr ⟨lw_q_r24_8, List.forall_mem_cons.mpr ⟨lw_q_r24_9, List.forall_mem_cons.mpr ⟨lw_q_r24_10, List.forall_mem_cons.mpr ⟨lw_q_r24_11, List.forall_mem_cons.mpr ⟨lw_q_r24_12, List.forall_mem_cons.mpr ⟨lw_q_r24_13, List.forall_mem_cons.mpr ⟨lw_q_r24_14, List.forall_mem_cons.mpr ⟨lw_q_r24_15, List.forall_mem_cons.mpr ⟨lw_q_r24_16, List.forall_mem_cons.mpr ⟨lw_q_r24_17, List.forall_mem_cons.mpr ⟨lw_q_r24_18, List.forall_mem_cons.mpr ⟨lw_q_r24_19, List.forall_mem_cons.mpr ⟨lw_q_r24_20, List.forall_mem_cons.mpr ⟨lw_q_r24_21, List.forall_mem_cons.mpr ⟨lw_q_r24_22, List.forall_mem_cons.mpr ⟨lw_q_r24_23, fun _ h => absurd h List.not_mem_nil⟩⟩⟩⟩⟩⟩⟩⟩⟩⟩⟩⟩⟩⟩⟩⟩⟩⟩⟩⟩⟩⟩⟩⟩
theorem lw_q_r25_0 : (Cond.selects RX0 yX0_mixedWithNights yX0_mixedWithNights : Cond) ∈ lw_tbl := List.mem_of_getElem? (i := 7) (by decide +kernel)
theorem lw_q_r25_1 : (Cond.code yX0_mixedWithNights cX0_mixedWithNights 6 (some .long) : Cond) ∈ lw_tbl := List.mem_of_getElem? (i := 303) (by decide +kernel)
theorem lw_q_r25_2 : (Cond.methodLink RX0 220 yX0_usedIn : Cond) ∈ lw_tbl := List.mem_of_getElem? (i := 304) (by decide +kernel)
theorem lw_q_r25_3 : (Cond.methodLink RX0 223 yX0_isSmudged : Cond) ∈ lw_tbl := List.mem_of_getElem? (i := 313) (by decide +kernel)
theorem lw_q_r25_4 : (Cond.methodLink RX0 184 yX0_mixedWithAstronomers : Cond) ∈ lw_tbl := List.mem_of_getElem? (i := 317) (by decide +kernel)
theorem lw_q_r25_5 : (Cond.instanceMethod yX0_mixedWithAstronomers : Cond) ∈ lw_tbl := List.mem_of_getElem? (i := 319) (by decide +kernel)
theorem lw_q_r25_6 : (Cond.selects RX0 yX0_mixedWithAstronomers yX0_mixedWithAstronomers : Cond) ∈ lw_tbl := List.mem_of_getElem? (i := 9) (by decide +kernel)
theorem lw_q_r25_7 : (Cond.code yX0_mixedWithAstronomers cX0_mixedWithAstronomers 6 (some .long) : Cond) ∈ lw_tbl := List.mem_of_getElem? (i := 320) (by decide +kernel)
theorem lw_q_r25_8 : (Cond.methodLink RX0 226 yX0_blamedBy : Cond) ∈ lw_tbl := List.mem_of_getElem? (i := 321) (by decide +kernel)
theorem lw_q_r25_9 : (Cond.methodLink RX0 229 yX0_stubbornnessOf : Cond) ∈ lw_tbl := List.mem_of_getElem? (i := 330) (by decide +kernel)
theorem lw_q_r25_10 : (Cond.methodLink RX0 232 yX0_unexplainedBy : Cond) ∈ lw_tbl := List.mem_of_getElem? (i := 334) (by decide +kernel)
theorem lw_q_r25_11 : (Cond.methodLink RL 205 yX1_digest : Cond) ∈ lw_tbl := List.mem_of_getElem? (i := 773) (by decide +kernel)
theorem lw_q_r25_12 : (Cond.instanceMethod yX1_digest : Cond) ∈ lw_tbl := List.mem_of_getElem? (i := 774) (by decide +kernel)
theorem lw_q_r25_13 : (Cond.selects RX1 yX1_digest yX1_digest : Cond) ∈ lw_tbl := List.mem_of_getElem? (i := 775) (by decide +kernel)
theorem lw_q_r25_14 : (Cond.code yX1_digest cX1_digest 10 (some .long) : Cond) ∈ lw_tbl := List.mem_of_getElem? (i := 776) (by decide +kernel)
theorem lw_q_r25_15 : (Cond.constantLong RX1 141 (1951) : Cond) ∈ lw_tbl := List.mem_of_getElem? (i := 780) (by decide +kernel)
theorem lw_q_r25_16 : (Cond.constantLong RX1 143 (31) : Cond) ∈ lw_tbl := List.mem_of_getElem? (i := 781) (by decide +kernel)
theorem lw_q_r25_17 : (Cond.methodLink RX1 137 yX1_one : Cond) ∈ lw_tbl := List.mem_of_getElem? (i := 777) (by decide +kernel)
theorem lw_q_r25_18 : (Cond.static yX1_one : Cond) ∈ lw_tbl := List.mem_of_getElem? (i := 778) (by decide +kernel)
theorem lw_q_r25_19 : (Cond.code yX1_one cX1_one 1 (some .int) : Cond) ∈ lw_tbl := List.mem_of_getElem? (i := 779) (by decide +kernel)
theorem lw_q_r25 : ∀ w ∈ wsL_law0_r25, w ∈ lw_tbl := List.forall_mem_cons.mpr ⟨lw_q_r25_0, List.forall_mem_cons.mpr ⟨lw_q_r25_1, List.forall_mem_cons.mpr ⟨lw_q_r25_2, List.forall_mem_cons.mpr ⟨lw_q_r25_3, List.forall_mem_cons.mpr ⟨lw_q_r25_4, List.forall_mem_cons.mpr ⟨lw_q_r25_5, List.forall_mem_cons.mpr ⟨lw_q_r25_6, List.forall_mem_cons.mpr ⟨lw_q_r25_7, List.forall_mem_cons.mpr ⟨lw_q_r25_8, List.forall_mem_cons.mpr ⟨lw_q_r25_9, List.forall_mem_cons.mpr ⟨lw_q_r25_10, List.forall_mem_cons.mpr ⟨lw_q_r25_11, List.forall_mem_cons.mpr ⟨lw_q_r25_12, List.forall_mem_cons.mpr ⟨lw_q_r25_13, List.forall_mem_cons.mpr ⟨lw_q_r25_14, List.forall_mem_cons.mpr ⟨lw_q_r25_15, List.forall_mem_cons.mpr ⟨lw_q_r25_16, List.forall_mem_cons.mpr ⟨lw_q_r25_17, List.forall_mem_cons.mpr ⟨lw_q_r25_18, List.forall_mem_cons.mpr ⟨lw_q_r25_19, fun _ h => absurd h List.not_mem_nil⟩⟩⟩⟩⟩⟩⟩⟩⟩⟩⟩⟩⟩⟩⟩⟩⟩⟩⟩⟩
theorem lw_q_x0 : ∀ w ∈ wsX00, w ∈ lw_tbl := by decide +kernel
theorem lw_q_x1 : ∀ w ∈ wsX10, w ∈ lw_tbl := by decide +kernel
theorem wsL_law_in0 : ∀ w ∈ wsL_law0, w ∈ lw_tbl := fun w h => (List.mem_append.mp h).elim (fun h => (List.mem_append.mp h).elim (fun h => (List.mem_append.mp h).elim (fun h => (List.mem_append.mp h).elim (fun h => lw_q_r1 w h) (fun h => (List.mem_append.mp h).elim (fun h => lw_q_r2 w h) (fun h => (List.mem_append.mp h).elim (fun h => lw_q_r3 w h) (fun h => (List.mem_append.mp h).elim (fun h => lw_q_r4 w h) (fun h => (List.mem_append.mp h).elim (fun h => lw_q_r5 w h) (fun h => (List.mem_append.mp h).elim (fun h => lw_q_r6 w h) (fun h => (List.mem_append.mp h).elim (fun h => lw_q_r7 w h) (fun h => (List.mem_append.mp h).elim (fun h => lw_q_r8 w h) (fun h => (List.mem_append.mp h).elim (fun h => lw_q_r9 w h) (fun h => (List.mem_append.mp h).elim (fun h => lw_q_r10 w h) (fun h => (List.mem_append.mp h).elim (fun h => lw_q_r11 w h) (fun h => (List.mem_append.mp h).elim (fun h => lw_q_r12 w h) (fun h => (List.mem_append.mp h).elim (fun h => lw_q_r13 w h) (fun h => (List.mem_append.mp h).elim (fun h => lw_q_r14 w h) (fun h => (List.mem_append.mp h).elim (fun h => lw_q_r15 w h) (fun h => (List.mem_append.mp h).elim (fun h => lw_q_r16 w h) (fun h => (List.mem_append.mp h).elim (fun h => lw_q_r17 w h) (fun h => (List.mem_append.mp h).elim (fun h => lw_q_r18 w h) (fun h => (List.mem_append.mp h).elim (fun h => lw_q_r19 w h) (fun h => (List.mem_append.mp h).elim (fun h => lw_q_r20 w h) (fun h => (List.mem_append.mp h).elim (fun h => lw_q_r21 w h) (fun h => (List.mem_append.mp h).elim (fun h => lw_q_r22 w h) (fun h => (List.mem_append.mp h).elim (fun h => lw_q_r23 w h) (fun h => (List.mem_append.mp h).elim (fun h => lw_q_r24 w h) (fun h => lw_q_r25 w h))))))))))))))))))))))))) (fun h => lw_q_x0 w h)) (fun h => lw_q_x1 w h)) (fun h => absurd h List.not_mem_nil)
theorem wsL_law_x0 : ∀ w ∈ (vx_atS RX0 46 "java/lang/IllegalStateException" ["java/lang/RuntimeException", "java/lang/Exception"]).filter goodWord, w ∈ lw_tbl := by decide +kernel
theorem wsL_law_x1 : ∀ w ∈ (vx_atS RX0 53 "java/lang/IllegalArgumentException" ["java/lang/RuntimeException", "java/lang/Exception"]).filter goodWord, w ∈ lw_tbl := by decide +kernel
theorem wsL_law_x2 : ∀ w ∈ (vx_atS RX0 191 "java/lang/IndexOutOfBoundsException" ["java/lang/RuntimeException", "java/lang/Exception"]).filter goodWord, w ∈ lw_tbl := by decide +kernel
theorem wsL_law_in : ∀ w ∈ wsL_law, w ∈ lw_tbl := fun w h => (List.mem_append.mp h).elim (fun h => (List.mem_append.mp h).elim (fun h => (List.mem_append.mp h).elim (fun h => wsL_law_in0 w h) (fun h => wsL_law_x0 w h)) (fun h => wsL_law_x1 w h)) (fun h => wsL_law_x2 w h)
theorem inlX0 : ∀ w ∈ wsX00, w ∈ wsL_law := fun _ h => List.mem_append_left _ (List.mem_append_left _ (List.mem_append_left _ (List.mem_append_left _ (List.mem_append_left _ (List.mem_append_right _ h)))))
theorem inX0 : ∀ w ∈ wsX00, w ∈ lw_tbl := fun w h => wsL_law_in w (inlX0 w h)
theorem inlX1 : ∀ w ∈ wsX10, w ∈ wsL_law := fun _ h => List.mem_append_left _ (List.mem_append_left _ (List.mem_append_left _ (List.mem_append_left _ (List.mem_append_right _ h))))
theorem inX1 : ∀ w ∈ wsX10, w ∈ lw_tbl := fun w h => wsL_law_in w (inlX1 w h)
theorem inJ6 : ∀ w ∈ wsJ60, w ∈ lw_tbl := by decide +kernel
theorem inJ9 : ∀ w ∈ wsJ90, w ∈ lw_tbl := by decide +kernel
theorem inJ0 : ∀ w ∈ wsJ00, w ∈ lw_tbl := by decide +kernel
end
section
theorem dX0_init_0 : decode cX0_init 0 = .ok (.aload_n 0, 1) := by decide +kernel
theorem dX0_init_1 : decode cX0_init 1 = .ok (.invokespecial 3, 3) := by decide +kernel
theorem dX0_init_4 : decode cX0_init 4 = .ok (.aload_n 0, 1) := by decide +kernel
theorem dX0_init_5 : decode cX0_init 5 = .ok (.iconst 0, 1) := by decide +kernel
theorem dX0_init_6 : decode cX0_init 6 = .ok (.putfield 9, 3) := by decide +kernel
theorem dX0_init_9 : decode cX0_init 9 = .ok (.aload_n 0, 1) := by decide +kernel
theorem dX0_init_10 : decode cX0_init 10 = .ok (.iconst 0, 1) := by decide +kernel
theorem dX0_init_11 : decode cX0_init 11 = .ok (.putfield 13, 3) := by decide +kernel
theorem dX0_init_14 : decode cX0_init 14 = .ok (.aload_n 0, 1) := by decide +kernel
theorem dX0_init_15 : decode cX0_init 15 = .ok (.bipush 40, 2) := by decide +kernel
theorem dX0_init_17 : decode cX0_init 17 = .ok (.newarray .int, 2) := by decide +kernel
theorem dX0_init_19 : decode cX0_init 19 = .ok (.putfield 16, 3) := by decide +kernel
theorem dX0_init_22 : decode cX0_init 22 = .ok (.aload_n 0, 1) := by decide +kernel
theorem dX0_init_23 : decode cX0_init 23 = .ok (.bipush 40, 2) := by decide +kernel
theorem dX0_init_25 : decode cX0_init 25 = .ok (.newarray .boolean, 2) := by decide +kernel
theorem dX0_init_27 : decode cX0_init 27 = .ok (.putfield 20, 3) := by decide +kernel
theorem dX0_init_30 : decode cX0_init 30 = .ok (.aload_n 0, 1) := by decide +kernel
theorem dX0_init_31 : decode cX0_init 31 = .ok (.sipush 256, 3) := by decide +kernel
theorem dX0_init_34 : decode cX0_init 34 = .ok (.newarray .int, 2) := by decide +kernel
theorem dX0_init_36 : decode cX0_init 36 = .ok (.putfield 24, 3) := by decide +kernel
theorem dX0_init_39 : decode cX0_init 39 = .ok (.aload_n 0, 1) := by decide +kernel
theorem dX0_init_40 : decode cX0_init 40 = .ok (.iconst 0, 1) := by decide +kernel
theorem dX0_init_41 : decode cX0_init 41 = .ok (.putfield 27, 3) := by decide +kernel
theorem dX0_init_44 : decode cX0_init 44 = .ok (.aload_n 0, 1) := by decide +kernel
theorem dX0_init_45 : decode cX0_init 45 = .ok (.bipush 8, 2) := by decide +kernel
theorem dX0_init_47 : decode cX0_init 47 = .ok (.newarray .int, 2) := by decide +kernel
theorem dX0_init_49 : decode cX0_init 49 = .ok (.putfield 30, 3) := by decide +kernel
theorem dX0_init_52 : decode cX0_init 52 = .ok (.aload_n 0, 1) := by decide +kernel
theorem dX0_init_53 : decode cX0_init 53 = .ok (.bipush 8, 2) := by decide +kernel
theorem dX0_init_55 : decode cX0_init 55 = .ok (.newarray .int, 2) := by decide +kernel
theorem dX0_init_57 : decode cX0_init 57 = .ok (.putfield 33, 3) := by decide +kernel
theorem dX0_init_60 : decode cX0_init 60 = .ok (.aload_n 0, 1) := by decide +kernel
theorem dX0_init_61 : decode cX0_init 61 = .ok (.bipush 8, 2) := by decide +kernel
theorem dX0_init_63 : decode cX0_init 63 = .ok (.newarray .int, 2) := by decide +kernel
theorem dX0_init_65 : decode cX0_init 65 = .ok (.putfield 36, 3) := by decide +kernel
theorem dX0_init_68 : decode cX0_init 68 = .ok (.aload_n 0, 1) := by decide +kernel
theorem dX0_init_69 : decode cX0_init 69 = .ok (.iconst 0, 1) := by decide +kernel
theorem dX0_init_70 : decode cX0_init 70 = .ok (.putfield 39, 3) := by decide +kernel
theorem dX0_init_73 : decode cX0_init 73 = .ok (.return_, 1) := by decide +kernel
theorem dX0_addThing_0 : decode cX0_addThing 0 = .ok (.aload_n 0, 1) := by decide +kernel
theorem dX0_addThing_1 : decode cX0_addThing 1 = .ok (.getfield 9, 3) := by decide +kernel
theorem dX0_addThing_4 : decode cX0_addThing 4 = .ok (.bipush 8, 2) := by decide +kernel
theorem dX0_addThing_6 : decode cX0_addThing 6 = .ok (.if_icmp .lt 13, 3) := by decide +kernel
theorem dX0_addThing_9 : decode cX0_addThing 9 = .ok (.new 42, 3) := by decide +kernel
theorem dX0_addThing_12 : decode cX0_addThing 12 = .ok (.dup, 1) := by decide +kernel
theorem dX0_addThing_13 : decode cX0_addThing 13 = .ok (.ldc 44, 2) := by decide +kernel
theorem dX0_addThing_15 : decode cX0_addThing 15 = .ok (.invokespecial 46, 3) := by decide +kernel
theorem dX0_addThing_18 : decode cX0_addThing 18 = .ok (.athrow, 1) := by decide +kernel
theorem dX0_addThing_19 : decode cX0_addThing 19 = .ok (.aload_n 0, 1) := by decide +kernel
theorem dX0_addThing_20 : decode cX0_addThing 20 = .ok (.getfield 9, 3) := by decide +kernel
theorem dX0_addThing_23 : decode cX0_addThing 23 = .ok (.istore_n 1, 1) := by decide +kernel
theorem dX0_addThing_24 : decode cX0_addThing 24 = .ok (.aload_n 0, 1) := by decide +kernel
theorem dX0_addThing_25 : decode cX0_addThing 25 = .ok (.dup, 1) := by decide +kernel
theorem dX0_addThing_26 : decode cX0_addThing 26 = .ok (.getfield 9, 3) := by decide +kernel
theorem dX0_addThing_29 : decode cX0_addThing 29 = .ok (.iconst 1, 1) := by decide +kernel
theorem dX0_addThing_30 : decode cX0_addThing 30 = .ok (.iadd, 1) := by decide +kernel
theorem dX0_addThing_31 : decode cX0_addThing 31 = .ok (.putfield 9, 3) := by decide +kernel
theorem dX0_addThing_34 : decode cX0_addThing 34 = .ok (.iload_n 1, 1) := by decide +kernel
theorem dX0_addThing_35 : decode cX0_addThing 35 = .ok (.ireturn, 1) := by decide +kernel
set_option maxRecDepth 20000 in
theorem ggX0_addAstronomer_X0_letBlame : GoodIn wsX0_addAstronomer wsX0_letBlame := goodIn_r _ [11, 12, 13, 6, 14, 15, 16, 17, 18, 19, 20, 21, 22, 23] (by decide +kernel) (by decide +kernel)
set_option maxRecDepth 20000 in
theorem gX0_addAstronomer_X0_letBlame : GoodIn wsX0_addAstronomer (wsV RX0 56 RX0 yX0_letBlame wsX0_letBlame) := goodIn_app (goodIn_of _ (by decide +kernel)) ggX0_addAstronomer_X0_letBlame
theorem dX0_addAstronomer_0 : decode cX0_addAstronomer 0 = .ok (.iload_n 1, 1) := by decide +kernel
theorem dX0_addAstronomer_1 : decode cX0_addAstronomer 1 = .ok (.ifCond .lt 8, 3) := by decide +kernel
theorem dX0_addAstronomer_4 : decode cX0_addAstronomer 4 = .ok (.iload_n 1, 1) := by decide +kernel
theorem dX0_addAstronomer_5 : decode cX0_addAstronomer 5 = .ok (.iconst 5, 1) := by decide +kernel
theorem dX0_addAstronomer_6 : decode cX0_addAstronomer 6 = .ok (.if_icmp .le 13, 3) := by decide +kernel
theorem dX0_addAstronomer_9 : decode cX0_addAstronomer 9 = .ok (.new 49, 3) := by decide +kernel
theorem dX0_addAstronomer_12 : decode cX0_addAstronomer 12 = .ok (.dup, 1) := by decide +kernel
theorem dX0_addAstronomer_13 : decode cX0_addAstronomer 13 = .ok (.ldc 51, 2) := by decide +kernel
theorem dX0_addAstronomer_15 : decode cX0_addAstronomer 15 = .ok (.invokespecial 53, 3) := by decide +kernel
theorem dX0_addAstronomer_18 : decode cX0_addAstronomer 18 = .ok (.athrow, 1) := by decide +kernel
theorem dX0_addAstronomer_19 : decode cX0_addAstronomer 19 = .ok (.aload_n 0, 1) := by decide +kernel
theorem dX0_addAstronomer_20 : decode cX0_addAstronomer 20 = .ok (.getfield 27, 3) := by decide +kernel
theorem dX0_addAstronomer_23 : decode cX0_addAstronomer 23 = .ok (.bipush 8, 2) := by decide +kernel
theorem dX0_addAstronomer_25 : decode cX0_addAstronomer 25 = .ok (.if_icmp .lt 13, 3) := by decide +kernel
theorem dX0_addAstronomer_28 : decode cX0_addAstronomer 28 = .ok (.new 42, 3) := by decide +kernel
theorem dX0_addAstronomer_31 : decode cX0_addAstronomer 31 = .ok (.dup, 1) := by decide +kernel
theorem dX0_addAstronomer_32 : decode cX0_addAstronomer 32 = .ok (.ldc 54, 2) := by decide +kernel
theorem dX0_addAstronomer_34 : decode cX0_addAstronomer 34 = .ok (.invokespecial 46, 3) := by decide +kernel
theorem dX0_addAstronomer_37 : decode cX0_addAstronomer 37 = .ok (.athrow, 1) := by decide +kernel
theorem dX0_addAstronomer_38 : decode cX0_addAstronomer 38 = .ok (.aload_n 0, 1) := by decide +kernel
theorem dX0_addAstronomer_39 : decode cX0_addAstronomer 39 = .ok (.getfield 27, 3) := by decide +kernel
theorem dX0_addAstronomer_42 : decode cX0_addAstronomer 42 = .ok (.istore_n 2, 1) := by decide +kernel
theorem dX0_addAstronomer_43 : decode cX0_addAstronomer 43 = .ok (.aload_n 0, 1) := by decide +kernel
theorem dX0_addAstronomer_44 : decode cX0_addAstronomer 44 = .ok (.getfield 36, 3) := by decide +kernel
theorem dX0_addAstronomer_47 : decode cX0_addAstronomer 47 = .ok (.iload_n 2, 1) := by decide +kernel
theorem dX0_addAstronomer_48 : decode cX0_addAstronomer 48 = .ok (.iload_n 1, 1) := by decide +kernel
theorem dX0_addAstronomer_49 : decode cX0_addAstronomer 49 = .ok (.iastore, 1) := by decide +kernel
theorem dX0_addAstronomer_50 : decode cX0_addAstronomer 50 = .ok (.aload_n 0, 1) := by decide +kernel
theorem dX0_addAstronomer_51 : decode cX0_addAstronomer 51 = .ok (.iload_n 2, 1) := by decide +kernel
theorem dX0_addAstronomer_52 : decode cX0_addAstronomer 52 = .ok (.iconst 0, 1) := by decide +kernel
theorem dX0_addAstronomer_53 : decode cX0_addAstronomer 53 = .ok (.invokevirtual 56, 3) := by decide +kernel
theorem dX0_addAstronomer_56 : decode cX0_addAstronomer 56 = .ok (.aload_n 0, 1) := by decide +kernel
theorem dX0_addAstronomer_57 : decode cX0_addAstronomer 57 = .ok (.dup, 1) := by decide +kernel
theorem dX0_addAstronomer_58 : decode cX0_addAstronomer 58 = .ok (.getfield 27, 3) := by decide +kernel
theorem dX0_addAstronomer_61 : decode cX0_addAstronomer 61 = .ok (.iconst 1, 1) := by decide +kernel
theorem dX0_addAstronomer_62 : decode cX0_addAstronomer 62 = .ok (.iadd, 1) := by decide +kernel
theorem dX0_addAstronomer_63 : decode cX0_addAstronomer 63 = .ok (.putfield 27, 3) := by decide +kernel
theorem dX0_addAstronomer_66 : decode cX0_addAstronomer 66 = .ok (.iload_n 2, 1) := by decide +kernel
theorem dX0_addAstronomer_67 : decode cX0_addAstronomer 67 = .ok (.ireturn, 1) := by decide +kernel
set_option maxRecDepth 20000 in
theorem ggX0_blame_X0_requireAstronomer : GoodIn wsX0_blame wsX0_requireAstronomer := goodIn_ca (goodIn_r _ [6, 7, 8, 9, 27, 28, 29, 30, 31, 32, 33, 34, 35, 36] (by decide +kernel) (by decide +kernel)) (goodIn_sub (fun _ h => List.mem_cons_of_mem _ (List.mem_append_left _ (List.mem_append_right _ h))) (by decide +kernel))
set_option maxRecDepth 20000 in
theorem gX0_blame_X0_requireAstronomer : GoodIn wsX0_blame (wsV RX0 60 RX0 yX0_requireAstronomer wsX0_requireAstronomer) := goodIn_app (goodIn_of _ (by decide +kernel)) ggX0_blame_X0_requireAstronomer
set_option maxRecDepth 20000 in
theorem ggX0_blame_X0_requireSet : GoodIn wsX0_blame wsX0_requireSet := goodIn_ca (goodIn_r _ [13, 14, 15, 16, 17, 18, 5, 19, 20, 27, 28, 29, 30, 31, 32, 33, 34, 35, 36] (by decide +kernel) (by decide +kernel)) (goodIn_sub (fun _ h => List.mem_cons_of_mem _ (List.mem_append_right _ h)) (by decide +kernel))
set_option maxRecDepth 20000 in
theorem gX0_blame_X0_requireSet : GoodIn wsX0_blame (wsV RX0 64 RX0 yX0_requireSet wsX0_requireSet) := goodIn_app (goodIn_of _ (by decide +kernel)) ggX0_blame_X0_requireSet
set_option maxRecDepth 20000 in
theorem ggX0_blame_X0_letBlame : GoodIn wsX0_blame wsX0_letBlame := goodIn_r _ [24, 1, 25, 26, 27, 28, 29, 30, 31, 32, 33, 34, 35, 36] (by decide +kernel) (by decide +kernel)
set_option maxRecDepth 20000 in
theorem gX0_blame_X0_letBlame : GoodIn wsX0_blame (wsV RX0 56 RX0 yX0_letBlame wsX0_letBlame) := goodIn_app (goodIn_of _ (by decide +kernel)) ggX0_blame_X0_letBlame
theorem dX0_blame_0 : decode cX0_blame 0 = .ok (.aload_n 0, 1) := by decide +kernel
theorem dX0_blame_1 : decode cX0_blame 1 = .ok (.iload_n 1, 1) := by decide +kernel
theorem dX0_blame_2 : decode cX0_blame 2 = .ok (.invokevirtual 60, 3) := by decide +kernel
theorem dX0_blame_5 : decode cX0_blame 5 = .ok (.aload_n 0, 1) := by decide +kernel
theorem dX0_blame_6 : decode cX0_blame 6 = .ok (.iload_n 2, 1) := by decide +kernel
theorem dX0_blame_7 : decode cX0_blame 7 = .ok (.invokevirtual 64, 3) := by decide +kernel
theorem dX0_blame_10 : decode cX0_blame 10 = .ok (.aload_n 0, 1) := by decide +kernel
theorem dX0_blame_11 : decode cX0_blame 11 = .ok (.getfield 30, 3) := by decide +kernel
theorem dX0_blame_14 : decode cX0_blame 14 = .ok (.iload_n 1, 1) := by decide +kernel
theorem dX0_blame_15 : decode cX0_blame 15 = .ok (.iaload, 1) := by decide +kernel
theorem dX0_blame_16 : decode cX0_blame 16 = .ok (.istore_n 3, 1) := by decide +kernel
theorem dX0_blame_17 : decode cX0_blame 17 = .ok (.aload_n 0, 1) := by decide +kernel
theorem dX0_blame_18 : decode cX0_blame 18 = .ok (.iload_n 1, 1) := by decide +kernel
theorem dX0_blame_19 : decode cX0_blame 19 = .ok (.iload_n 2, 1) := by decide +kernel
theorem dX0_blame_20 : decode cX0_blame 20 = .ok (.invokevirtual 56, 3) := by decide +kernel
theorem dX0_blame_23 : decode cX0_blame 23 = .ok (.iload_n 3, 1) := by decide +kernel
theorem dX0_blame_24 : decode cX0_blame 24 = .ok (.ireturn, 1) := by decide +kernel
set_option maxRecDepth 20000 in
theorem ggX0_writeDown_X0_requireUsableSet : GoodIn wsX0_writeDown wsX0_requireUsableSet := goodIn_ca (goodIn_r _ [9, 10, 11, 12, 13, 14, 8, 15, 16, 58, 59, 60, 61, 62, 63, 64, 65, 66, 67] (by decide +kernel) (by decide +kernel)) (goodIn_sub (fun _ h => List.mem_cons_of_mem _ (List.mem_append_left _ (List.mem_append_right _ h))) (by decide +kernel))
set_option maxRecDepth 20000 in
theorem gX0_writeDown_X0_requireUsableSet : GoodIn wsX0_writeDown (wsV RX0 67 RX0 yX0_requireUsableSet wsX0_requireUsableSet) := goodIn_app (goodIn_of _ (by decide +kernel)) ggX0_writeDown_X0_requireUsableSet
set_option maxRecDepth 20000 in
theorem ggX0_writeDown_X0_requireRoomForNight : GoodIn wsX0_writeDown wsX0_requireRoomForNight := goodIn_ca (goodIn_r _ [20, 21, 22, 2, 58, 59, 60, 61, 62, 63, 64, 65, 66, 67] (by decide +kernel) (by decide +kernel)) (goodIn_sub (fun _ h => List.mem_cons_of_mem _ (List.mem_append_right _ h)) (by decide +kernel))
set_option maxRecDepth 20000 in
theorem gX0_writeDown_X0_requireRoomForNight : GoodIn wsX0_writeDown (wsV RX0 70 RX0 yX0_requireRoomForNight wsX0_requireRoomForNight) := goodIn_app (goodIn_of _ (by decide +kernel)) ggX0_writeDown_X0_requireRoomForNight
set_option maxRecDepth 20000 in
theorem ggX0_writeDown_X0_countMisses : GoodIn wsX0_writeDown wsX0_countMisses := goodIn_r _ [26, 27, 28, 29, 8, 30, 58, 59, 60, 61, 62, 63, 64, 65, 66, 67] (by decide +kernel) (by decide +kernel)
set_option maxRecDepth 20000 in
theorem gX0_writeDown_X0_countMisses : GoodIn wsX0_writeDown (wsV RX0 73 RX0 yX0_countMisses wsX0_countMisses) := goodIn_app (goodIn_of _ (by decide +kernel)) ggX0_writeDown_X0_countMisses
set_option maxRecDepth 20000 in
theorem ggX0_writeDown_X0_letAstronomersSee : GoodIn wsX0_writeDown wsX0_letAstronomersSee := goodIn_r _ [34, 35, 36, 37, 38, 39, 40, 8, 41, 12, 13, 14, 15, 16, 42, 43, 44, 45, 27, 46, 47, 48, 49, 50, 51, 52, 28, 29, 30, 53, 54, 55, 56, 57, 58, 59, 60, 61, 62, 63, 64, 65, 66, 67] (by decide +kernel) (by decide +kernel)
set_option maxRecDepth 20000 in
theorem gX0_writeDown_X0_letAstronomersSee : GoodIn wsX0_writeDown (wsV RX0 77 RX0 yX0_letAstronomersSee wsX0_letAstronomersSee) := goodIn_app (goodIn_of _ (by decide +kernel)) ggX0_writeDown_X0_letAstronomersSee
theorem dX0_writeDown_0 : decode cX0_writeDown 0 = .ok (.aload_n 0, 1) := by decide +kernel
theorem dX0_writeDown_1 : decode cX0_writeDown 1 = .ok (.iload_n 1, 1) := by decide +kernel
theorem dX0_writeDown_2 : decode cX0_writeDown 2 = .ok (.invokevirtual 67, 3) := by decide +kernel
theorem dX0_writeDown_5 : decode cX0_writeDown 5 = .ok (.aload_n 0, 1) := by decide +kernel
theorem dX0_writeDown_6 : decode cX0_writeDown 6 = .ok (.invokevirtual 70, 3) := by decide +kernel
theorem dX0_writeDown_9 : decode cX0_writeDown 9 = .ok (.aload_n 0, 1) := by decide +kernel
theorem dX0_writeDown_10 : decode cX0_writeDown 10 = .ok (.getfield 16, 3) := by decide +kernel
theorem dX0_writeDown_13 : decode cX0_writeDown 13 = .ok (.aload_n 0, 1) := by decide +kernel
theorem dX0_writeDown_14 : decode cX0_writeDown 14 = .ok (.getfield 13, 3) := by decide +kernel
theorem dX0_writeDown_17 : decode cX0_writeDown 17 = .ok (.iload_n 1, 1) := by decide +kernel
theorem dX0_writeDown_18 : decode cX0_writeDown 18 = .ok (.iastore, 1) := by decide +kernel
theorem dX0_writeDown_19 : decode cX0_writeDown 19 = .ok (.aload_n 0, 1) := by decide +kernel
theorem dX0_writeDown_20 : decode cX0_writeDown 20 = .ok (.getfield 20, 3) := by decide +kernel
theorem dX0_writeDown_23 : decode cX0_writeDown 23 = .ok (.aload_n 0, 1) := by decide +kernel
theorem dX0_writeDown_24 : decode cX0_writeDown 24 = .ok (.getfield 13, 3) := by decide +kernel
theorem dX0_writeDown_27 : decode cX0_writeDown 27 = .ok (.iload_n 2, 1) := by decide +kernel
theorem dX0_writeDown_28 : decode cX0_writeDown 28 = .ok (.bastore, 1) := by decide +kernel
theorem dX0_writeDown_29 : decode cX0_writeDown 29 = .ok (.aload_n 0, 1) := by decide +kernel
theorem dX0_writeDown_30 : decode cX0_writeDown 30 = .ok (.dup, 1) := by decide +kernel
theorem dX0_writeDown_31 : decode cX0_writeDown 31 = .ok (.getfield 13, 3) := by decide +kernel
theorem dX0_writeDown_34 : decode cX0_writeDown 34 = .ok (.iconst 1, 1) := by decide +kernel
theorem dX0_writeDown_35 : decode cX0_writeDown 35 = .ok (.iadd, 1) := by decide +kernel
theorem dX0_writeDown_36 : decode cX0_writeDown 36 = .ok (.putfield 13, 3) := by decide +kernel
theorem dX0_writeDown_39 : decode cX0_writeDown 39 = .ok (.aload_n 0, 1) := by decide +kernel
theorem dX0_writeDown_40 : decode cX0_writeDown 40 = .ok (.iload_n 1, 1) := by decide +kernel
theorem dX0_writeDown_41 : decode cX0_writeDown 41 = .ok (.iload_n 2, 1) := by decide +kernel
theorem dX0_writeDown_42 : decode cX0_writeDown 42 = .ok (.iconst 1, 1) := by decide +kernel
theorem dX0_writeDown_43 : decode cX0_writeDown 43 = .ok (.invokevirtual 73, 3) := by decide +kernel
theorem dX0_writeDown_46 : decode cX0_writeDown 46 = .ok (.aload_n 0, 1) := by decide +kernel
theorem dX0_writeDown_47 : decode cX0_writeDown 47 = .ok (.iload_n 1, 1) := by decide +kernel
theorem dX0_writeDown_48 : decode cX0_writeDown 48 = .ok (.iload_n 2, 1) := by decide +kernel
theorem dX0_writeDown_49 : decode cX0_writeDown 49 = .ok (.invokevirtual 77, 3) := by decide +kernel
theorem dX0_writeDown_52 : decode cX0_writeDown 52 = .ok (.istore_n 3, 1) := by decide +kernel
theorem dX0_writeDown_53 : decode cX0_writeDown 53 = .ok (.aload_n 0, 1) := by decide +kernel
theorem dX0_writeDown_54 : decode cX0_writeDown 54 = .ok (.dup, 1) := by decide +kernel
theorem dX0_writeDown_55 : decode cX0_writeDown 55 = .ok (.getfield 39, 3) := by decide +kernel
theorem dX0_writeDown_58 : decode cX0_writeDown 58 = .ok (.iload_n 3, 1) := by decide +kernel
theorem dX0_writeDown_59 : decode cX0_writeDown 59 = .ok (.iadd, 1) := by decide +kernel
theorem dX0_writeDown_60 : decode cX0_writeDown 60 = .ok (.putfield 39, 3) := by decide +kernel
theorem dX0_writeDown_63 : decode cX0_writeDown 63 = .ok (.iload_n 3, 1) := by decide +kernel
theorem dX0_writeDown_64 : decode cX0_writeDown 64 = .ok (.ireturn, 1) := by decide +kernel
set_option maxRecDepth 20000 in
theorem ggX0_strike_X0_requireNight : GoodIn wsX0_strike wsX0_requireNight := goodIn_ca (goodIn_r _ [8, 9, 10, 3, 19, 20, 21, 22, 23, 24, 25, 26, 27, 28] (by decide +kernel) (by decide +kernel)) (goodIn_sub (fun _ h => List.mem_cons_of_mem _ (List.mem_append_right _ h)) (by decide +kernel))
set_option maxRecDepth 20000 in
theorem gX0_strike_X0_requireNight : GoodIn wsX0_strike (wsV RX0 81 RX0 yX0_requireNight wsX0_requireNight) := goodIn_app (goodIn_of _ (by decide +kernel)) ggX0_strike_X0_requireNight
set_option maxRecDepth 20000 in
theorem ggX0_strike_X0_countMisses : GoodIn wsX0_strike wsX0_countMisses := goodIn_r _ [14, 15, 16, 17, 7, 18, 19, 20, 21, 22, 23, 24, 25, 26, 27, 28] (by decide +kernel) (by decide +kernel)
set_option maxRecDepth 20000 in
theorem gX0_strike_X0_countMisses : GoodIn wsX0_strike (wsV RX0 73 RX0 yX0_countMisses wsX0_countMisses) := goodIn_app (goodIn_of _ (by decide +kernel)) ggX0_strike_X0_countMisses
theorem dX0_strike_0 : decode cX0_strike 0 = .ok (.aload_n 0, 1) := by decide +kernel
theorem dX0_strike_1 : decode cX0_strike 1 = .ok (.iload_n 1, 1) := by decide +kernel
theorem dX0_strike_2 : decode cX0_strike 2 = .ok (.invokevirtual 81, 3) := by decide +kernel
theorem dX0_strike_5 : decode cX0_strike 5 = .ok (.aload_n 0, 1) := by decide +kernel
theorem dX0_strike_6 : decode cX0_strike 6 = .ok (.aload_n 0, 1) := by decide +kernel
theorem dX0_strike_7 : decode cX0_strike 7 = .ok (.getfield 16, 3) := by decide +kernel
theorem dX0_strike_10 : decode cX0_strike 10 = .ok (.iload_n 1, 1) := by decide +kernel
theorem dX0_strike_11 : decode cX0_strike 11 = .ok (.iaload, 1) := by decide +kernel
theorem dX0_strike_12 : decode cX0_strike 12 = .ok (.aload_n 0, 1) := by decide +kernel
theorem dX0_strike_13 : decode cX0_strike 13 = .ok (.getfield 20, 3) := by decide +kernel
theorem dX0_strike_16 : decode cX0_strike 16 = .ok (.iload_n 1, 1) := by decide +kernel
theorem dX0_strike_17 : decode cX0_strike 17 = .ok (.baload, 1) := by decide +kernel
theorem dX0_strike_18 : decode cX0_strike 18 = .ok (.iconst (-1), 1) := by decide +kernel
theorem dX0_strike_19 : decode cX0_strike 19 = .ok (.invokevirtual 73, 3) := by decide +kernel
theorem dX0_strike_22 : decode cX0_strike 22 = .ok (.iload_n 1, 1) := by decide +kernel
theorem dX0_strike_23 : decode cX0_strike 23 = .ok (.iconst 1, 1) := by decide +kernel
theorem dX0_strike_24 : decode cX0_strike 24 = .ok (.iadd, 1) := by decide +kernel
theorem dX0_strike_25 : decode cX0_strike 25 = .ok (.istore_n 2, 1) := by decide +kernel
theorem dX0_strike_26 : decode cX0_strike 26 = .ok (.iload_n 2, 1) := by decide +kernel
theorem dX0_strike_27 : decode cX0_strike 27 = .ok (.aload_n 0, 1) := by decide +kernel
theorem dX0_strike_28 : decode cX0_strike 28 = .ok (.getfield 13, 3) := by decide +kernel
theorem dX0_strike_31 : decode cX0_strike 31 = .ok (.if_icmp .ge 37, 3) := by decide +kernel
theorem dX0_strike_34 : decode cX0_strike 34 = .ok (.aload_n 0, 1) := by decide +kernel
theorem dX0_strike_35 : decode cX0_strike 35 = .ok (.getfield 16, 3) := by decide +kernel
theorem dX0_strike_38 : decode cX0_strike 38 = .ok (.iload_n 2, 1) := by decide +kernel
theorem dX0_strike_39 : decode cX0_strike 39 = .ok (.iconst 1, 1) := by decide +kernel
theorem dX0_strike_40 : decode cX0_strike 40 = .ok (.isub, 1) := by decide +kernel
theorem dX0_strike_41 : decode cX0_strike 41 = .ok (.aload_n 0, 1) := by decide +kernel
theorem dX0_strike_42 : decode cX0_strike 42 = .ok (.getfield 16, 3) := by decide +kernel
theorem dX0_strike_45 : decode cX0_strike 45 = .ok (.iload_n 2, 1) := by decide +kernel
theorem dX0_strike_46 : decode cX0_strike 46 = .ok (.iaload, 1) := by decide +kernel
theorem dX0_strike_47 : decode cX0_strike 47 = .ok (.iastore, 1) := by decide +kernel
theorem dX0_strike_48 : decode cX0_strike 48 = .ok (.aload_n 0, 1) := by decide +kernel
theorem dX0_strike_49 : decode cX0_strike 49 = .ok (.getfield 20, 3) := by decide +kernel
theorem dX0_strike_52 : decode cX0_strike 52 = .ok (.iload_n 2, 1) := by decide +kernel
theorem dX0_strike_53 : decode cX0_strike 53 = .ok (.iconst 1, 1) := by decide +kernel
theorem dX0_strike_54 : decode cX0_strike 54 = .ok (.isub, 1) := by decide +kernel
theorem dX0_strike_55 : decode cX0_strike 55 = .ok (.aload_n 0, 1) := by decide +kernel
theorem dX0_strike_56 : decode cX0_strike 56 = .ok (.getfield 20, 3) := by decide +kernel
theorem dX0_strike_59 : decode cX0_strike 59 = .ok (.iload_n 2, 1) := by decide +kernel
theorem dX0_strike_60 : decode cX0_strike 60 = .ok (.baload, 1) := by decide +kernel
theorem dX0_strike_61 : decode cX0_strike 61 = .ok (.bastore, 1) := by decide +kernel
theorem dX0_strike_62 : decode cX0_strike 62 = .ok (.iinc 2 1, 3) := by decide +kernel
theorem dX0_strike_65 : decode cX0_strike 65 = .ok (.goto (-39), 3) := by decide +kernel
theorem dX0_strike_68 : decode cX0_strike 68 = .ok (.aload_n 0, 1) := by decide +kernel
theorem dX0_strike_69 : decode cX0_strike 69 = .ok (.dup, 1) := by decide +kernel
theorem dX0_strike_70 : decode cX0_strike 70 = .ok (.getfield 13, 3) := by decide +kernel
theorem dX0_strike_73 : decode cX0_strike 73 = .ok (.iconst 1, 1) := by decide +kernel
theorem dX0_strike_74 : decode cX0_strike 74 = .ok (.isub, 1) := by decide +kernel
theorem dX0_strike_75 : decode cX0_strike 75 = .ok (.putfield 13, 3) := by decide +kernel
theorem dX0_strike_78 : decode cX0_strike 78 = .ok (.aload_n 0, 1) := by decide +kernel
theorem dX0_strike_79 : decode cX0_strike 79 = .ok (.getfield 13, 3) := by decide +kernel
theorem dX0_strike_82 : decode cX0_strike 82 = .ok (.ireturn, 1) := by decide +kernel
theorem dX0_things_0 : decode cX0_things 0 = .ok (.aload_n 0, 1) := by decide +kernel
theorem dX0_things_1 : decode cX0_things 1 = .ok (.getfield 9, 3) := by decide +kernel
theorem dX0_things_4 : decode cX0_things 4 = .ok (.ireturn, 1) := by decide +kernel
set_option maxRecDepth 20000 in
theorem ggX0_nightsWith_X0_requireThing : GoodIn wsX0_nightsWith wsX0_requireThing := goodIn_ca (goodIn_r _ [7, 8, 9, 10, 17, 18, 19, 20, 21, 22, 23, 24, 25, 26] (by decide +kernel) (by decide +kernel)) (goodIn_sub (fun _ h => List.mem_cons_of_mem _ (List.mem_append_right _ h)) (by decide +kernel))
set_option maxRecDepth 20000 in
theorem gX0_nightsWith_X0_requireThing : GoodIn wsX0_nightsWith (wsV RX0 84 RX0 yX0_requireThing wsX0_requireThing) := goodIn_app (goodIn_of _ (by decide +kernel)) ggX0_nightsWith_X0_requireThing
set_option maxRecDepth 20000 in
theorem ggX0_nightsWith_X0_holds : GoodIn wsX0_nightsWith wsX0_holds := goodIn_r _ [13, 14, 15, 6, 16] (by decide +kernel) (by decide +kernel)
set_option maxRecDepth 20000 in
theorem gX0_nightsWith_X0_holds : GoodIn wsX0_nightsWith (va_wsS RX0 87 yX0_holds wsX0_holds) := goodIn_app (goodIn_of _ (by decide +kernel)) ggX0_nightsWith_X0_holds
theorem dX0_nightsWith_0 : decode cX0_nightsWith 0 = .ok (.aload_n 0, 1) := by decide +kernel
theorem dX0_nightsWith_1 : decode cX0_nightsWith 1 = .ok (.iload_n 1, 1) := by decide +kernel
theorem dX0_nightsWith_2 : decode cX0_nightsWith 2 = .ok (.invokevirtual 84, 3) := by decide +kernel
theorem dX0_nightsWith_5 : decode cX0_nightsWith 5 = .ok (.iconst 0, 1) := by decide +kernel
theorem dX0_nightsWith_6 : decode cX0_nightsWith 6 = .ok (.istore_n 2, 1) := by decide +kernel
theorem dX0_nightsWith_7 : decode cX0_nightsWith 7 = .ok (.iconst 0, 1) := by decide +kernel
theorem dX0_nightsWith_8 : decode cX0_nightsWith 8 = .ok (.istore_n 3, 1) := by decide +kernel
theorem dX0_nightsWith_9 : decode cX0_nightsWith 9 = .ok (.iload_n 3, 1) := by decide +kernel
theorem dX0_nightsWith_10 : decode cX0_nightsWith 10 = .ok (.aload_n 0, 1) := by decide +kernel
theorem dX0_nightsWith_11 : decode cX0_nightsWith 11 = .ok (.getfield 13, 3) := by decide +kernel
theorem dX0_nightsWith_14 : decode cX0_nightsWith 14 = .ok (.if_icmp .ge 25, 3) := by decide +kernel
theorem dX0_nightsWith_17 : decode cX0_nightsWith 17 = .ok (.aload_n 0, 1) := by decide +kernel
theorem dX0_nightsWith_18 : decode cX0_nightsWith 18 = .ok (.getfield 16, 3) := by decide +kernel
theorem dX0_nightsWith_21 : decode cX0_nightsWith 21 = .ok (.iload_n 3, 1) := by decide +kernel
theorem dX0_nightsWith_22 : decode cX0_nightsWith 22 = .ok (.iaload, 1) := by decide +kernel
theorem dX0_nightsWith_23 : decode cX0_nightsWith 23 = .ok (.iload_n 1, 1) := by decide +kernel
theorem dX0_nightsWith_24 : decode cX0_nightsWith 24 = .ok (.invokestatic 87, 3) := by decide +kernel
theorem dX0_nightsWith_27 : decode cX0_nightsWith 27 = .ok (.ifCond .eq 6, 3) := by decide +kernel
theorem dX0_nightsWith_30 : decode cX0_nightsWith 30 = .ok (.iinc 2 1, 3) := by decide +kernel
theorem dX0_nightsWith_33 : decode cX0_nightsWith 33 = .ok (.iinc 3 1, 3) := by decide +kernel
theorem dX0_nightsWith_36 : decode cX0_nightsWith 36 = .ok (.goto (-27), 3) := by decide +kernel
theorem dX0_nightsWith_39 : decode cX0_nightsWith 39 = .ok (.iload_n 2, 1) := by decide +kernel
theorem dX0_nightsWith_40 : decode cX0_nightsWith 40 = .ok (.ireturn, 1) := by decide +kernel
set_option maxRecDepth 20000 in
theorem ggX0_smudgesWith_X0_requireThing : GoodIn wsX0_smudgesWith wsX0_requireThing := goodIn_ca (goodIn_r _ [8, 9, 10, 11, 18, 19, 20, 21, 22, 23, 24, 25, 26, 27] (by decide +kernel) (by decide +kernel)) (goodIn_sub (fun _ h => List.mem_cons_of_mem _ (List.mem_append_right _ h)) (by decide +kernel))
set_option maxRecDepth 20000 in
theorem gX0_smudgesWith_X0_requireThing : GoodIn wsX0_smudgesWith (wsV RX0 84 RX0 yX0_requireThing wsX0_requireThing) := goodIn_app (goodIn_of _ (by decide +kernel)) ggX0_smudgesWith_X0_requireThing
set_option maxRecDepth 20000 in
theorem ggX0_smudgesWith_X0_holds : GoodIn wsX0_smudgesWith wsX0_holds := goodIn_r _ [14, 15, 16, 7, 17] (by decide +kernel) (by decide +kernel)
set_option maxRecDepth 20000 in
theorem gX0_smudgesWith_X0_holds : GoodIn wsX0_smudgesWith (va_wsS RX0 87 yX0_holds wsX0_holds) := goodIn_app (goodIn_of _ (by decide +kernel)) ggX0_smudgesWith_X0_holds
theorem dX0_smudgesWith_0 : decode cX0_smudgesWith 0 = .ok (.aload_n 0, 1) := by decide +kernel
theorem dX0_smudgesWith_1 : decode cX0_smudgesWith 1 = .ok (.iload_n 1, 1) := by decide +kernel
theorem dX0_smudgesWith_2 : decode cX0_smudgesWith 2 = .ok (.invokevirtual 84, 3) := by decide +kernel
theorem dX0_smudgesWith_5 : decode cX0_smudgesWith 5 = .ok (.iconst 0, 1) := by decide +kernel
theorem dX0_smudgesWith_6 : decode cX0_smudgesWith 6 = .ok (.istore_n 2, 1) := by decide +kernel
theorem dX0_smudgesWith_7 : decode cX0_smudgesWith 7 = .ok (.iconst 0, 1) := by decide +kernel
theorem dX0_smudgesWith_8 : decode cX0_smudgesWith 8 = .ok (.istore_n 3, 1) := by decide +kernel
theorem dX0_smudgesWith_9 : decode cX0_smudgesWith 9 = .ok (.iload_n 3, 1) := by decide +kernel
theorem dX0_smudgesWith_10 : decode cX0_smudgesWith 10 = .ok (.aload_n 0, 1) := by decide +kernel
theorem dX0_smudgesWith_11 : decode cX0_smudgesWith 11 = .ok (.getfield 13, 3) := by decide +kernel
theorem dX0_smudgesWith_14 : decode cX0_smudgesWith 14 = .ok (.if_icmp .ge 34, 3) := by decide +kernel
theorem dX0_smudgesWith_17 : decode cX0_smudgesWith 17 = .ok (.aload_n 0, 1) := by decide +kernel
theorem dX0_smudgesWith_18 : decode cX0_smudgesWith 18 = .ok (.getfield 20, 3) := by decide +kernel
theorem dX0_smudgesWith_21 : decode cX0_smudgesWith 21 = .ok (.iload_n 3, 1) := by decide +kernel
theorem dX0_smudgesWith_22 : decode cX0_smudgesWith 22 = .ok (.baload, 1) := by decide +kernel
theorem dX0_smudgesWith_23 : decode cX0_smudgesWith 23 = .ok (.ifCond .eq 19, 3) := by decide +kernel
theorem dX0_smudgesWith_26 : decode cX0_smudgesWith 26 = .ok (.aload_n 0, 1) := by decide +kernel
theorem dX0_smudgesWith_27 : decode cX0_smudgesWith 27 = .ok (.getfield 16, 3) := by decide +kernel
theorem dX0_smudgesWith_30 : decode cX0_smudgesWith 30 = .ok (.iload_n 3, 1) := by decide +kernel
theorem dX0_smudgesWith_31 : decode cX0_smudgesWith 31 = .ok (.iaload, 1) := by decide +kernel
theorem dX0_smudgesWith_32 : decode cX0_smudgesWith 32 = .ok (.iload_n 1, 1) := by decide +kernel
theorem dX0_smudgesWith_33 : decode cX0_smudgesWith 33 = .ok (.invokestatic 87, 3) := by decide +kernel
theorem dX0_smudgesWith_36 : decode cX0_smudgesWith 36 = .ok (.ifCond .eq 6, 3) := by decide +kernel
theorem dX0_smudgesWith_39 : decode cX0_smudgesWith 39 = .ok (.iinc 2 1, 3) := by decide +kernel
theorem dX0_smudgesWith_42 : decode cX0_smudgesWith 42 = .ok (.iinc 3 1, 3) := by decide +kernel
theorem dX0_smudgesWith_45 : decode cX0_smudgesWith 45 = .ok (.goto (-36), 3) := by decide +kernel
theorem dX0_smudgesWith_48 : decode cX0_smudgesWith 48 = .ok (.iload_n 2, 1) := by decide +kernel
theorem dX0_smudgesWith_49 : decode cX0_smudgesWith 49 = .ok (.ireturn, 1) := by decide +kernel
set_option maxRecDepth 20000 in
theorem ggX0_isCleared_X0_requireThing : GoodIn wsX0_isCleared wsX0_requireThing := goodIn_ca (goodIn_r _ [5, 6, 7, 8, 22, 23, 24, 25, 26, 27, 28, 29, 30, 31] (by decide +kernel) (by decide +kernel)) (goodIn_sub (fun _ h => List.mem_cons_of_mem _ (List.mem_append_right _ h)) (by decide +kernel))
set_option maxRecDepth 20000 in
theorem gX0_isCleared_X0_requireThing : GoodIn wsX0_isCleared (wsV RX0 84 RX0 yX0_requireThing wsX0_requireThing) := goodIn_app (goodIn_of _ (by decide +kernel)) ggX0_isCleared_X0_requireThing
set_option maxRecDepth 20000 in
theorem ggX0_isCleared_X0_clearedThings : GoodIn wsX0_isCleared wsX0_clearedThings := goodIn_r _ [12, 13, 14, 15, 22, 23, 24, 25, 26, 27, 28, 29, 30, 31] (by decide +kernel) (by decide +kernel)
set_option maxRecDepth 20000 in
theorem gX0_isCleared_X0_clearedThings : GoodIn wsX0_isCleared (wsV RX0 91 RX0 yX0_clearedThings wsX0_clearedThings) := goodIn_app (goodIn_of _ (by decide +kernel)) ggX0_isCleared_X0_clearedThings
set_option maxRecDepth 20000 in
theorem ggX0_isCleared_X0_holds : GoodIn wsX0_isCleared wsX0_holds := goodIn_r _ [18, 19, 20, 4, 21] (by decide +kernel) (by decide +kernel)
set_option maxRecDepth 20000 in
theorem gX0_isCleared_X0_holds : GoodIn wsX0_isCleared (va_wsS RX0 87 yX0_holds wsX0_holds) := goodIn_app (goodIn_of _ (by decide +kernel)) ggX0_isCleared_X0_holds
theorem dX0_isCleared_0 : decode cX0_isCleared 0 = .ok (.aload_n 0, 1) := by decide +kernel
theorem dX0_isCleared_1 : decode cX0_isCleared 1 = .ok (.iload_n 1, 1) := by decide +kernel
theorem dX0_isCleared_2 : decode cX0_isCleared 2 = .ok (.invokevirtual 84, 3) := by decide +kernel
theorem dX0_isCleared_5 : decode cX0_isCleared 5 = .ok (.aload_n 0, 1) := by decide +kernel
theorem dX0_isCleared_6 : decode cX0_isCleared 6 = .ok (.invokevirtual 91, 3) := by decide +kernel
theorem dX0_isCleared_9 : decode cX0_isCleared 9 = .ok (.iload_n 1, 1) := by decide +kernel
theorem dX0_isCleared_10 : decode cX0_isCleared 10 = .ok (.invokestatic 87, 3) := by decide +kernel
theorem dX0_isCleared_13 : decode cX0_isCleared 13 = .ok (.ireturn, 1) := by decide +kernel
set_option maxRecDepth 20000 in
theorem ggX0_isProved_X0_requireThing : GoodIn wsX0_isProved wsX0_requireThing := goodIn_ca (goodIn_r _ [8, 9, 10, 11, 22, 23, 24, 25, 26, 27, 28, 29, 30, 31] (by decide +kernel) (by decide +kernel)) (goodIn_sub (fun _ h => List.mem_cons_of_mem _ (List.mem_append_right _ h)) (by decide +kernel))
set_option maxRecDepth 20000 in
theorem gX0_isProved_X0_requireThing : GoodIn wsX0_isProved (wsV RX0 84 RX0 yX0_requireThing wsX0_requireThing) := goodIn_app (goodIn_of _ (by decide +kernel)) ggX0_isProved_X0_requireThing
set_option maxRecDepth 20000 in
theorem ggX0_isProved_X0_clearedThings : GoodIn wsX0_isProved wsX0_clearedThings := goodIn_r _ [15, 1, 3, 2, 22, 23, 24, 25, 26, 27, 28, 29, 30, 31] (by decide +kernel) (by decide +kernel)
set_option maxRecDepth 20000 in
theorem gX0_isProved_X0_clearedThings : GoodIn wsX0_isProved (wsV RX0 91 RX0 yX0_clearedThings wsX0_clearedThings) := goodIn_app (goodIn_of _ (by decide +kernel)) ggX0_isProved_X0_clearedThings
set_option maxRecDepth 20000 in
theorem ggX0_isProved_X0_setOf : GoodIn wsX0_isProved wsX0_setOf := goodIn_r _ [18] (by decide +kernel) (by decide +kernel)
set_option maxRecDepth 20000 in
theorem gX0_isProved_X0_setOf : GoodIn wsX0_isProved (va_wsS RX0 95 yX0_setOf wsX0_setOf) := goodIn_app (goodIn_of _ (by decide +kernel)) ggX0_isProved_X0_setOf
set_option maxRecDepth 20000 in
theorem ggX0_isProved_X0_holds : GoodIn wsX0_isProved wsX0_holds := goodIn_r _ [21, 16, 17, 7, 18] (by decide +kernel) (by decide +kernel)
set_option maxRecDepth 20000 in
theorem gX0_isProved_X0_holds : GoodIn wsX0_isProved (va_wsS RX0 87 yX0_holds wsX0_holds) := goodIn_app (goodIn_of _ (by decide +kernel)) ggX0_isProved_X0_holds
theorem dX0_isProved_0 : decode cX0_isProved 0 = .ok (.aload_n 0, 1) := by decide +kernel
theorem dX0_isProved_1 : decode cX0_isProved 1 = .ok (.iload_n 1, 1) := by decide +kernel
theorem dX0_isProved_2 : decode cX0_isProved 2 = .ok (.invokevirtual 84, 3) := by decide +kernel
theorem dX0_isProved_5 : decode cX0_isProved 5 = .ok (.aload_n 0, 1) := by decide +kernel
theorem dX0_isProved_6 : decode cX0_isProved 6 = .ok (.invokevirtual 91, 3) := by decide +kernel
theorem dX0_isProved_9 : decode cX0_isProved 9 = .ok (.iload_n 1, 1) := by decide +kernel
theorem dX0_isProved_10 : decode cX0_isProved 10 = .ok (.invokestatic 95, 3) := by decide +kernel
theorem dX0_isProved_13 : decode cX0_isProved 13 = .ok (.ior, 1) := by decide +kernel
theorem dX0_isProved_14 : decode cX0_isProved 14 = .ok (.istore_n 2, 1) := by decide +kernel
theorem dX0_isProved_15 : decode cX0_isProved 15 = .ok (.iconst 0, 1) := by decide +kernel
theorem dX0_isProved_16 : decode cX0_isProved 16 = .ok (.istore_n 3, 1) := by decide +kernel
theorem dX0_isProved_17 : decode cX0_isProved 17 = .ok (.iload_n 3, 1) := by decide +kernel
theorem dX0_isProved_18 : decode cX0_isProved 18 = .ok (.aload_n 0, 1) := by decide +kernel
theorem dX0_isProved_19 : decode cX0_isProved 19 = .ok (.getfield 13, 3) := by decide +kernel
theorem dX0_isProved_22 : decode cX0_isProved 22 = .ok (.if_icmp .ge 46, 3) := by decide +kernel
theorem dX0_isProved_25 : decode cX0_isProved 25 = .ok (.aload_n 0, 1) := by decide +kernel
theorem dX0_isProved_26 : decode cX0_isProved 26 = .ok (.getfield 16, 3) := by decide +kernel
theorem dX0_isProved_29 : decode cX0_isProved 29 = .ok (.iload_n 3, 1) := by decide +kernel
theorem dX0_isProved_30 : decode cX0_isProved 30 = .ok (.iaload, 1) := by decide +kernel
theorem dX0_isProved_31 : decode cX0_isProved 31 = .ok (.istore 4, 2) := by decide +kernel
theorem dX0_isProved_33 : decode cX0_isProved 33 = .ok (.aload_n 0, 1) := by decide +kernel
theorem dX0_isProved_34 : decode cX0_isProved 34 = .ok (.getfield 20, 3) := by decide +kernel
theorem dX0_isProved_37 : decode cX0_isProved 37 = .ok (.iload_n 3, 1) := by decide +kernel
theorem dX0_isProved_38 : decode cX0_isProved 38 = .ok (.baload, 1) := by decide +kernel
theorem dX0_isProved_39 : decode cX0_isProved 39 = .ok (.ifCond .eq 23, 3) := by decide +kernel
theorem dX0_isProved_42 : decode cX0_isProved 42 = .ok (.iload 4, 2) := by decide +kernel
theorem dX0_isProved_44 : decode cX0_isProved 44 = .ok (.iload_n 1, 1) := by decide +kernel
theorem dX0_isProved_45 : decode cX0_isProved 45 = .ok (.invokestatic 87, 3) := by decide +kernel
theorem dX0_isProved_48 : decode cX0_isProved 48 = .ok (.ifCond .eq 14, 3) := by decide +kernel
theorem dX0_isProved_51 : decode cX0_isProved 51 = .ok (.iload 4, 2) := by decide +kernel
theorem dX0_isProved_53 : decode cX0_isProved 53 = .ok (.iload_n 2, 1) := by decide +kernel
theorem dX0_isProved_54 : decode cX0_isProved 54 = .ok (.iconst (-1), 1) := by decide +kernel
theorem dX0_isProved_55 : decode cX0_isProved 55 = .ok (.ixor, 1) := by decide +kernel
theorem dX0_isProved_56 : decode cX0_isProved 56 = .ok (.iand, 1) := by decide +kernel
theorem dX0_isProved_57 : decode cX0_isProved 57 = .ok (.ifCond .ne 5, 3) := by decide +kernel
theorem dX0_isProved_60 : decode cX0_isProved 60 = .ok (.iconst 1, 1) := by decide +kernel
theorem dX0_isProved_61 : decode cX0_isProved 61 = .ok (.ireturn, 1) := by decide +kernel
theorem dX0_isProved_62 : decode cX0_isProved 62 = .ok (.iinc 3 1, 3) := by decide +kernel
theorem dX0_isProved_65 : decode cX0_isProved 65 = .ok (.goto (-48), 3) := by decide +kernel
theorem dX0_isProved_68 : decode cX0_isProved 68 = .ok (.iconst 0, 1) := by decide +kernel
theorem dX0_isProved_69 : decode cX0_isProved 69 = .ok (.ireturn, 1) := by decide +kernel
set_option maxRecDepth 20000 in
theorem ggX0_setsWith_X0_requireThing : GoodIn wsX0_setsWith wsX0_requireThing := goodIn_ca (goodIn_r _ [5, 6, 7, 8, 25, 26, 27, 28, 29, 30, 31, 32, 33, 34] (by decide +kernel) (by decide +kernel)) (goodIn_sub (fun _ h => List.mem_cons_of_mem _ (List.mem_append_right _ h)) (by decide +kernel))
set_option maxRecDepth 20000 in
theorem gX0_setsWith_X0_requireThing : GoodIn wsX0_setsWith (wsV RX0 84 RX0 yX0_requireThing wsX0_requireThing) := goodIn_app (goodIn_of _ (by decide +kernel)) ggX0_setsWith_X0_requireThing
set_option maxRecDepth 20000 in
theorem ggX0_setsWith_X0_setOf : GoodIn wsX0_setsWith wsX0_setOf := goodIn_r _ [11] (by decide +kernel) (by decide +kernel)
set_option maxRecDepth 20000 in
theorem gX0_setsWith_X0_setOf : GoodIn wsX0_setsWith (va_wsS RX0 95 yX0_setOf wsX0_setOf) := goodIn_app (goodIn_of _ (by decide +kernel)) ggX0_setsWith_X0_setOf
set_option maxRecDepth 20000 in
theorem ggX0_setsWith_X0_explanationsMeeting : GoodIn wsX0_setsWith wsX0_explanationsMeeting := goodIn_r _ [15, 16, 17, 18, 4, 19, 8, 20, 21, 22, 23, 24, 25, 26, 27, 28, 29, 30, 31, 32, 33, 34] (by decide +kernel) (by decide +kernel)
set_option maxRecDepth 20000 in
theorem gX0_setsWith_X0_explanationsMeeting : GoodIn wsX0_setsWith (wsV RX0 99 RX0 yX0_explanationsMeeting wsX0_explanationsMeeting) := goodIn_app (goodIn_of _ (by decide +kernel)) ggX0_setsWith_X0_explanationsMeeting
theorem dX0_setsWith_0 : decode cX0_setsWith 0 = .ok (.aload_n 0, 1) := by decide +kernel
theorem dX0_setsWith_1 : decode cX0_setsWith 1 = .ok (.iload_n 1, 1) := by decide +kernel
theorem dX0_setsWith_2 : decode cX0_setsWith 2 = .ok (.invokevirtual 84, 3) := by decide +kernel
theorem dX0_setsWith_5 : decode cX0_setsWith 5 = .ok (.aload_n 0, 1) := by decide +kernel
theorem dX0_setsWith_6 : decode cX0_setsWith 6 = .ok (.iload_n 1, 1) := by decide +kernel
theorem dX0_setsWith_7 : decode cX0_setsWith 7 = .ok (.invokestatic 95, 3) := by decide +kernel
theorem dX0_setsWith_10 : decode cX0_setsWith 10 = .ok (.invokevirtual 99, 3) := by decide +kernel
theorem dX0_setsWith_13 : decode cX0_setsWith 13 = .ok (.ireturn, 1) := by decide +kernel
theorem dX0_nights_0 : decode cX0_nights 0 = .ok (.aload_n 0, 1) := by decide +kernel
theorem dX0_nights_1 : decode cX0_nights 1 = .ok (.getfield 13, 3) := by decide +kernel
theorem dX0_nights_4 : decode cX0_nights 4 = .ok (.ireturn, 1) := by decide +kernel
theorem dX0_smudges_0 : decode cX0_smudges 0 = .ok (.iconst 0, 1) := by decide +kernel
theorem dX0_smudges_1 : decode cX0_smudges 1 = .ok (.istore_n 1, 1) := by decide +kernel
theorem dX0_smudges_2 : decode cX0_smudges 2 = .ok (.iconst 0, 1) := by decide +kernel
theorem dX0_smudges_3 : decode cX0_smudges 3 = .ok (.istore_n 2, 1) := by decide +kernel
theorem dX0_smudges_4 : decode cX0_smudges 4 = .ok (.iload_n 2, 1) := by decide +kernel
theorem dX0_smudges_5 : decode cX0_smudges 5 = .ok (.aload_n 0, 1) := by decide +kernel
theorem dX0_smudges_6 : decode cX0_smudges 6 = .ok (.getfield 13, 3) := by decide +kernel
theorem dX0_smudges_9 : decode cX0_smudges 9 = .ok (.if_icmp .ge 21, 3) := by decide +kernel
theorem dX0_smudges_12 : decode cX0_smudges 12 = .ok (.aload_n 0, 1) := by decide +kernel
theorem dX0_smudges_13 : decode cX0_smudges 13 = .ok (.getfield 20, 3) := by decide +kernel
theorem dX0_smudges_16 : decode cX0_smudges 16 = .ok (.iload_n 2, 1) := by decide +kernel
theorem dX0_smudges_17 : decode cX0_smudges 17 = .ok (.baload, 1) := by decide +kernel
theorem dX0_smudges_18 : decode cX0_smudges 18 = .ok (.ifCond .eq 6, 3) := by decide +kernel
theorem dX0_smudges_21 : decode cX0_smudges 21 = .ok (.iinc 1 1, 3) := by decide +kernel
theorem dX0_smudges_24 : decode cX0_smudges 24 = .ok (.iinc 2 1, 3) := by decide +kernel
theorem dX0_smudges_27 : decode cX0_smudges 27 = .ok (.goto (-23), 3) := by decide +kernel
theorem dX0_smudges_30 : decode cX0_smudges 30 = .ok (.iload_n 1, 1) := by decide +kernel
theorem dX0_smudges_31 : decode cX0_smudges 31 = .ok (.ireturn, 1) := by decide +kernel
set_option maxRecDepth 20000 in
theorem ggX0_usedIn_X0_requireNight : GoodIn wsX0_usedIn wsX0_requireNight := goodIn_ca (goodIn_r _ [6, 7, 8, 9, 10, 11, 12, 13, 14, 15, 16, 17, 18, 19] (by decide +kernel) (by decide +kernel)) (goodIn_sub (fun _ h => List.mem_cons_of_mem _ (List.mem_append_right _ h)) (by decide +kernel))
set_option maxRecDepth 20000 in
theorem gX0_usedIn_X0_requireNight : GoodIn wsX0_usedIn (wsV RX0 81 RX0 yX0_requireNight wsX0_requireNight) := goodIn_app (goodIn_of _ (by decide +kernel)) ggX0_usedIn_X0_requireNight
theorem dX0_usedIn_0 : decode cX0_usedIn 0 = .ok (.aload_n 0, 1) := by decide +kernel
theorem dX0_usedIn_1 : decode cX0_usedIn 1 = .ok (.iload_n 1, 1) := by decide +kernel
theorem dX0_usedIn_2 : decode cX0_usedIn 2 = .ok (.invokevirtual 81, 3) := by decide +kernel
theorem dX0_usedIn_5 : decode cX0_usedIn 5 = .ok (.aload_n 0, 1) := by decide +kernel
theorem dX0_usedIn_6 : decode cX0_usedIn 6 = .ok (.getfield 16, 3) := by decide +kernel
theorem dX0_usedIn_9 : decode cX0_usedIn 9 = .ok (.iload_n 1, 1) := by decide +kernel
theorem dX0_usedIn_10 : decode cX0_usedIn 10 = .ok (.iaload, 1) := by decide +kernel
theorem dX0_usedIn_11 : decode cX0_usedIn 11 = .ok (.ireturn, 1) := by decide +kernel
set_option maxRecDepth 20000 in
theorem ggX0_isSmudged_X0_requireNight : GoodIn wsX0_isSmudged wsX0_requireNight := goodIn_ca (goodIn_r _ [6, 7, 8, 9, 10, 11, 12, 13, 14, 15, 16, 17, 18, 19] (by decide +kernel) (by decide +kernel)) (goodIn_sub (fun _ h => List.mem_cons_of_mem _ (List.mem_append_right _ h)) (by decide +kernel))
set_option maxRecDepth 20000 in
theorem gX0_isSmudged_X0_requireNight : GoodIn wsX0_isSmudged (wsV RX0 81 RX0 yX0_requireNight wsX0_requireNight) := goodIn_app (goodIn_of _ (by decide +kernel)) ggX0_isSmudged_X0_requireNight
theorem dX0_isSmudged_0 : decode cX0_isSmudged 0 = .ok (.aload_n 0, 1) := by decide +kernel
theorem dX0_isSmudged_1 : decode cX0_isSmudged 1 = .ok (.iload_n 1, 1) := by decide +kernel
theorem dX0_isSmudged_2 : decode cX0_isSmudged 2 = .ok (.invokevirtual 81, 3) := by decide +kernel
theorem dX0_isSmudged_5 : decode cX0_isSmudged 5 = .ok (.aload_n 0, 1) := by decide +kernel
theorem dX0_isSmudged_6 : decode cX0_isSmudged 6 = .ok (.getfield 20, 3) := by decide +kernel
theorem dX0_isSmudged_9 : decode cX0_isSmudged 9 = .ok (.iload_n 1, 1) := by decide +kernel
theorem dX0_isSmudged_10 : decode cX0_isSmudged 10 = .ok (.baload, 1) := by decide +kernel
theorem dX0_isSmudged_11 : decode cX0_isSmudged 11 = .ok (.ireturn, 1) := by decide +kernel
set_option maxRecDepth 20000 in
theorem ggX0_agree_X0_nightsToDoubt : GoodIn wsX0_agree wsX0_nightsToDoubt := goodIn_r _ [5, 6, 7, 8, 9, 10, 11, 12, 13, 4, 14, 15, 16, 17, 18, 19, 20, 21, 22, 23, 24, 25, 26, 27, 28, 29, 30] (by decide +kernel) (by decide +kernel)
set_option maxRecDepth 20000 in
theorem gX0_agree_X0_nightsToDoubt : GoodIn wsX0_agree (wsV RX0 102 RX0 yX0_nightsToDoubt wsX0_nightsToDoubt) := goodIn_app (goodIn_of _ (by decide +kernel)) ggX0_agree_X0_nightsToDoubt
theorem dX0_agree_0 : decode cX0_agree 0 = .ok (.aload_n 0, 1) := by decide +kernel
theorem dX0_agree_1 : decode cX0_agree 1 = .ok (.invokevirtual 102, 3) := by decide +kernel
theorem dX0_agree_4 : decode cX0_agree 4 = .ok (.ifCond .ne 7, 3) := by decide +kernel
theorem dX0_agree_7 : decode cX0_agree 7 = .ok (.iconst 1, 1) := by decide +kernel
theorem dX0_agree_8 : decode cX0_agree 8 = .ok (.goto 4, 3) := by decide +kernel
theorem dX0_agree_11 : decode cX0_agree 11 = .ok (.iconst 0, 1) := by decide +kernel
theorem dX0_agree_12 : decode cX0_agree 12 = .ok (.ireturn, 1) := by decide +kernel
theorem dX0_astronomers_0 : decode cX0_astronomers 0 = .ok (.aload_n 0, 1) := by decide +kernel
theorem dX0_astronomers_1 : decode cX0_astronomers 1 = .ok (.getfield 27, 3) := by decide +kernel
theorem dX0_astronomers_4 : decode cX0_astronomers 4 = .ok (.ireturn, 1) := by decide +kernel
set_option maxRecDepth 20000 in
theorem ggX0_blamedBy_X0_requireAstronomer : GoodIn wsX0_blamedBy wsX0_requireAstronomer := goodIn_ca (goodIn_r _ [6, 7, 8, 9, 10, 11, 12, 13, 14, 15, 16, 17, 18, 19] (by decide +kernel) (by decide +kernel)) (goodIn_sub (fun _ h => List.mem_cons_of_mem _ (List.mem_append_right _ h)) (by decide +kernel))
set_option maxRecDepth 20000 in
theorem gX0_blamedBy_X0_requireAstronomer : GoodIn wsX0_blamedBy (wsV RX0 60 RX0 yX0_requireAstronomer wsX0_requireAstronomer) := goodIn_app (goodIn_of _ (by decide +kernel)) ggX0_blamedBy_X0_requireAstronomer
theorem dX0_blamedBy_0 : decode cX0_blamedBy 0 = .ok (.aload_n 0, 1) := by decide +kernel
theorem dX0_blamedBy_1 : decode cX0_blamedBy 1 = .ok (.iload_n 1, 1) := by decide +kernel
theorem dX0_blamedBy_2 : decode cX0_blamedBy 2 = .ok (.invokevirtual 60, 3) := by decide +kernel
theorem dX0_blamedBy_5 : decode cX0_blamedBy 5 = .ok (.aload_n 0, 1) := by decide +kernel
theorem dX0_blamedBy_6 : decode cX0_blamedBy 6 = .ok (.getfield 30, 3) := by decide +kernel
theorem dX0_blamedBy_9 : decode cX0_blamedBy 9 = .ok (.iload_n 1, 1) := by decide +kernel
theorem dX0_blamedBy_10 : decode cX0_blamedBy 10 = .ok (.iaload, 1) := by decide +kernel
theorem dX0_blamedBy_11 : decode cX0_blamedBy 11 = .ok (.ireturn, 1) := by decide +kernel
set_option maxRecDepth 20000 in
theorem ggX0_stubbornnessOf_X0_requireAstronomer : GoodIn wsX0_stubbornnessOf wsX0_requireAstronomer := goodIn_ca (goodIn_r _ [6, 7, 8, 9, 10, 11, 12, 13, 14, 15, 16, 17, 18, 19] (by decide +kernel) (by decide +kernel)) (goodIn_sub (fun _ h => List.mem_cons_of_mem _ (List.mem_append_right _ h)) (by decide +kernel))
set_option maxRecDepth 20000 in
theorem gX0_stubbornnessOf_X0_requireAstronomer : GoodIn wsX0_stubbornnessOf (wsV RX0 60 RX0 yX0_requireAstronomer wsX0_requireAstronomer) := goodIn_app (goodIn_of _ (by decide +kernel)) ggX0_stubbornnessOf_X0_requireAstronomer
theorem dX0_stubbornnessOf_0 : decode cX0_stubbornnessOf 0 = .ok (.aload_n 0, 1) := by decide +kernel
theorem dX0_stubbornnessOf_1 : decode cX0_stubbornnessOf 1 = .ok (.iload_n 1, 1) := by decide +kernel
theorem dX0_stubbornnessOf_2 : decode cX0_stubbornnessOf 2 = .ok (.invokevirtual 60, 3) := by decide +kernel
theorem dX0_stubbornnessOf_5 : decode cX0_stubbornnessOf 5 = .ok (.aload_n 0, 1) := by decide +kernel
theorem dX0_stubbornnessOf_6 : decode cX0_stubbornnessOf 6 = .ok (.getfield 33, 3) := by decide +kernel
theorem dX0_stubbornnessOf_9 : decode cX0_stubbornnessOf 9 = .ok (.iload_n 1, 1) := by decide +kernel
theorem dX0_stubbornnessOf_10 : decode cX0_stubbornnessOf 10 = .ok (.iaload, 1) := by decide +kernel
theorem dX0_stubbornnessOf_11 : decode cX0_stubbornnessOf 11 = .ok (.ireturn, 1) := by decide +kernel
set_option maxRecDepth 20000 in
theorem ggX0_unexplainedBy_X0_requireAstronomer : GoodIn wsX0_unexplainedBy wsX0_requireAstronomer := goodIn_ca (goodIn_r _ [6, 7, 8, 9, 15, 16, 17, 18, 19, 20, 21, 22, 23, 24] (by decide +kernel) (by decide +kernel)) (goodIn_sub (fun _ h => List.mem_cons_of_mem _ (List.mem_append_right _ h)) (by decide +kernel))
set_option maxRecDepth 20000 in
theorem gX0_unexplainedBy_X0_requireAstronomer : GoodIn wsX0_unexplainedBy (wsV RX0 60 RX0 yX0_requireAstronomer wsX0_requireAstronomer) := goodIn_app (goodIn_of _ (by decide +kernel)) ggX0_unexplainedBy_X0_requireAstronomer
set_option maxRecDepth 20000 in
theorem ggX0_unexplainedBy_X0_missesOf : GoodIn wsX0_unexplainedBy wsX0_missesOf := goodIn_r _ [13, 14, 15, 16, 17, 18, 19, 20, 21, 22, 23, 24] (by decide +kernel) (by decide +kernel)
set_option maxRecDepth 20000 in
theorem gX0_unexplainedBy_X0_missesOf : GoodIn wsX0_unexplainedBy (wsV RX0 105 RX0 yX0_missesOf wsX0_missesOf) := goodIn_app (goodIn_of _ (by decide +kernel)) ggX0_unexplainedBy_X0_missesOf
theorem dX0_unexplainedBy_0 : decode cX0_unexplainedBy 0 = .ok (.aload_n 0, 1) := by decide +kernel
theorem dX0_unexplainedBy_1 : decode cX0_unexplainedBy 1 = .ok (.iload_n 1, 1) := by decide +kernel
theorem dX0_unexplainedBy_2 : decode cX0_unexplainedBy 2 = .ok (.invokevirtual 60, 3) := by decide +kernel
theorem dX0_unexplainedBy_5 : decode cX0_unexplainedBy 5 = .ok (.aload_n 0, 1) := by decide +kernel
theorem dX0_unexplainedBy_6 : decode cX0_unexplainedBy 6 = .ok (.aload_n 0, 1) := by decide +kernel
theorem dX0_unexplainedBy_7 : decode cX0_unexplainedBy 7 = .ok (.getfield 30, 3) := by decide +kernel
theorem dX0_unexplainedBy_10 : decode cX0_unexplainedBy 10 = .ok (.iload_n 1, 1) := by decide +kernel
theorem dX0_unexplainedBy_11 : decode cX0_unexplainedBy 11 = .ok (.iaload, 1) := by decide +kernel
theorem dX0_unexplainedBy_12 : decode cX0_unexplainedBy 12 = .ok (.invokevirtual 105, 3) := by decide +kernel
theorem dX0_unexplainedBy_15 : decode cX0_unexplainedBy 15 = .ok (.ireturn, 1) := by decide +kernel
set_option maxRecDepth 20000 in
theorem ggX0_votesFor_X0_requireThing : GoodIn wsX0_votesFor wsX0_requireThing := goodIn_ca (goodIn_r _ [7, 8, 9, 10, 17, 18, 19, 20, 21, 22, 23, 24, 25, 26] (by decide +kernel) (by decide +kernel)) (goodIn_sub (fun _ h => List.mem_cons_of_mem _ (List.mem_append_right _ h)) (by decide +kernel))
set_option maxRecDepth 20000 in
theorem gX0_votesFor_X0_requireThing : GoodIn wsX0_votesFor (wsV RX0 84 RX0 yX0_requireThing wsX0_requireThing) := goodIn_app (goodIn_of _ (by decide +kernel)) ggX0_votesFor_X0_requireThing
set_option maxRecDepth 20000 in
theorem ggX0_votesFor_X0_holds : GoodIn wsX0_votesFor wsX0_holds := goodIn_r _ [13, 14, 15, 6, 16] (by decide +kernel) (by decide +kernel)
set_option maxRecDepth 20000 in
theorem gX0_votesFor_X0_holds : GoodIn wsX0_votesFor (va_wsS RX0 87 yX0_holds wsX0_holds) := goodIn_app (goodIn_of _ (by decide +kernel)) ggX0_votesFor_X0_holds
theorem dX0_votesFor_0 : decode cX0_votesFor 0 = .ok (.aload_n 0, 1) := by decide +kernel
theorem dX0_votesFor_1 : decode cX0_votesFor 1 = .ok (.iload_n 1, 1) := by decide +kernel
theorem dX0_votesFor_2 : decode cX0_votesFor 2 = .ok (.invokevirtual 84, 3) := by decide +kernel
theorem dX0_votesFor_5 : decode cX0_votesFor 5 = .ok (.iconst 0, 1) := by decide +kernel
theorem dX0_votesFor_6 : decode cX0_votesFor 6 = .ok (.istore_n 2, 1) := by decide +kernel
theorem dX0_votesFor_7 : decode cX0_votesFor 7 = .ok (.iconst 0, 1) := by decide +kernel
theorem dX0_votesFor_8 : decode cX0_votesFor 8 = .ok (.istore_n 3, 1) := by decide +kernel
theorem dX0_votesFor_9 : decode cX0_votesFor 9 = .ok (.iload_n 3, 1) := by decide +kernel
theorem dX0_votesFor_10 : decode cX0_votesFor 10 = .ok (.aload_n 0, 1) := by decide +kernel
theorem dX0_votesFor_11 : decode cX0_votesFor 11 = .ok (.getfield 27, 3) := by decide +kernel
theorem dX0_votesFor_14 : decode cX0_votesFor 14 = .ok (.if_icmp .ge 25, 3) := by decide +kernel
theorem dX0_votesFor_17 : decode cX0_votesFor 17 = .ok (.aload_n 0, 1) := by decide +kernel
theorem dX0_votesFor_18 : decode cX0_votesFor 18 = .ok (.getfield 30, 3) := by decide +kernel
theorem dX0_votesFor_21 : decode cX0_votesFor 21 = .ok (.iload_n 3, 1) := by decide +kernel
theorem dX0_votesFor_22 : decode cX0_votesFor 22 = .ok (.iaload, 1) := by decide +kernel
theorem dX0_votesFor_23 : decode cX0_votesFor 23 = .ok (.iload_n 1, 1) := by decide +kernel
theorem dX0_votesFor_24 : decode cX0_votesFor 24 = .ok (.invokestatic 87, 3) := by decide +kernel
theorem dX0_votesFor_27 : decode cX0_votesFor 27 = .ok (.ifCond .eq 6, 3) := by decide +kernel
theorem dX0_votesFor_30 : decode cX0_votesFor 30 = .ok (.iinc 2 1, 3) := by decide +kernel
theorem dX0_votesFor_33 : decode cX0_votesFor 33 = .ok (.iinc 3 1, 3) := by decide +kernel
theorem dX0_votesFor_36 : decode cX0_votesFor 36 = .ok (.goto (-27), 3) := by decide +kernel
theorem dX0_votesFor_39 : decode cX0_votesFor 39 = .ok (.iload_n 2, 1) := by decide +kernel
theorem dX0_votesFor_40 : decode cX0_votesFor 40 = .ok (.ireturn, 1) := by decide +kernel
set_option maxRecDepth 20000 in
theorem ggX0_vote_X0_votesFor : GoodIn wsX0_vote wsX0_votesFor := goodIn_ca (goodIn_r _ [7, 2, 8, 9, 10, 11, 6, 12, 13, 14, 1, 15, 16, 17, 18, 19, 20, 21, 22, 23, 24, 25, 26, 27, 28, 29, 30] (by decide +kernel) (by decide +kernel)) (goodIn_sub (fun _ h => List.mem_cons_of_mem _ (List.mem_append_right _ h)) (by decide +kernel))
set_option maxRecDepth 20000 in
theorem gX0_vote_X0_votesFor : GoodIn wsX0_vote (wsV RX0 108 RX0 yX0_votesFor wsX0_votesFor) := goodIn_app (goodIn_of _ (by decide +kernel)) ggX0_vote_X0_votesFor
set_option maxRecDepth 20000 in
theorem ggX0_vote_X0_setOf : GoodIn wsX0_vote wsX0_setOf := goodIn_r _ [20] (by decide +kernel) (by decide +kernel)
set_option maxRecDepth 20000 in
theorem gX0_vote_X0_setOf : GoodIn wsX0_vote (va_wsS RX0 95 yX0_setOf wsX0_setOf) := goodIn_app (goodIn_of _ (by decide +kernel)) ggX0_vote_X0_setOf
theorem dX0_vote_0 : decode cX0_vote 0 = .ok (.iconst 0, 1) := by decide +kernel
theorem dX0_vote_1 : decode cX0_vote 1 = .ok (.istore_n 1, 1) := by decide +kernel
theorem dX0_vote_2 : decode cX0_vote 2 = .ok (.iconst 0, 1) := by decide +kernel
theorem dX0_vote_3 : decode cX0_vote 3 = .ok (.istore_n 2, 1) := by decide +kernel
theorem dX0_vote_4 : decode cX0_vote 4 = .ok (.iload_n 2, 1) := by decide +kernel
theorem dX0_vote_5 : decode cX0_vote 5 = .ok (.aload_n 0, 1) := by decide +kernel
theorem dX0_vote_6 : decode cX0_vote 6 = .ok (.getfield 9, 3) := by decide +kernel
theorem dX0_vote_9 : decode cX0_vote 9 = .ok (.if_icmp .ge 30, 3) := by decide +kernel
theorem dX0_vote_12 : decode cX0_vote 12 = .ok (.aload_n 0, 1) := by decide +kernel
theorem dX0_vote_13 : decode cX0_vote 13 = .ok (.iload_n 2, 1) := by decide +kernel
theorem dX0_vote_14 : decode cX0_vote 14 = .ok (.invokevirtual 108, 3) := by decide +kernel
theorem dX0_vote_17 : decode cX0_vote 17 = .ok (.iconst 2, 1) := by decide +kernel
theorem dX0_vote_18 : decode cX0_vote 18 = .ok (.imul, 1) := by decide +kernel
theorem dX0_vote_19 : decode cX0_vote 19 = .ok (.aload_n 0, 1) := by decide +kernel
theorem dX0_vote_20 : decode cX0_vote 20 = .ok (.getfield 27, 3) := by decide +kernel
theorem dX0_vote_23 : decode cX0_vote 23 = .ok (.if_icmp .le 10, 3) := by decide +kernel
theorem dX0_vote_26 : decode cX0_vote 26 = .ok (.iload_n 1, 1) := by decide +kernel
theorem dX0_vote_27 : decode cX0_vote 27 = .ok (.iload_n 2, 1) := by decide +kernel
theorem dX0_vote_28 : decode cX0_vote 28 = .ok (.invokestatic 95, 3) := by decide +kernel
theorem dX0_vote_31 : decode cX0_vote 31 = .ok (.ior, 1) := by decide +kernel
theorem dX0_vote_32 : decode cX0_vote 32 = .ok (.istore_n 1, 1) := by decide +kernel
theorem dX0_vote_33 : decode cX0_vote 33 = .ok (.iinc 2 1, 3) := by decide +kernel
theorem dX0_vote_36 : decode cX0_vote 36 = .ok (.goto (-32), 3) := by decide +kernel
theorem dX0_vote_39 : decode cX0_vote 39 = .ok (.iload_n 1, 1) := by decide +kernel
theorem dX0_vote_40 : decode cX0_vote 40 = .ok (.ireturn, 1) := by decide +kernel
theorem dX0_changesOfMind_0 : decode cX0_changesOfMind 0 = .ok (.aload_n 0, 1) := by decide +kernel
theorem dX0_changesOfMind_1 : decode cX0_changesOfMind 1 = .ok (.getfield 39, 3) := by decide +kernel
theorem dX0_changesOfMind_4 : decode cX0_changesOfMind 4 = .ok (.ireturn, 1) := by decide +kernel
set_option maxRecDepth 20000 in
theorem ggX0_explainsAll_X0_requireSet : GoodIn wsX0_explainsAll wsX0_requireSet := goodIn_ca (goodIn_r _ [5, 6, 7, 8, 9, 10, 4, 11, 12, 18, 19, 20, 21, 22, 23, 24, 25, 26, 27] (by decide +kernel) (by decide +kernel)) (goodIn_sub (fun _ h => List.mem_cons_of_mem _ (List.mem_append_right _ h)) (by decide +kernel))
set_option maxRecDepth 20000 in
theorem gX0_explainsAll_X0_requireSet : GoodIn wsX0_explainsAll (wsV RX0 64 RX0 yX0_requireSet wsX0_requireSet) := goodIn_app (goodIn_of _ (by decide +kernel)) ggX0_explainsAll_X0_requireSet
set_option maxRecDepth 20000 in
theorem ggX0_explainsAll_X0_missesOf : GoodIn wsX0_explainsAll wsX0_missesOf := goodIn_r _ [16, 17, 18, 19, 20, 21, 22, 23, 24, 25, 26, 27] (by decide +kernel) (by decide +kernel)
set_option maxRecDepth 20000 in
theorem gX0_explainsAll_X0_missesOf : GoodIn wsX0_explainsAll (wsV RX0 105 RX0 yX0_missesOf wsX0_missesOf) := goodIn_app (goodIn_of _ (by decide +kernel)) ggX0_explainsAll_X0_missesOf
theorem dX0_explainsAll_0 : decode cX0_explainsAll 0 = .ok (.aload_n 0, 1) := by decide +kernel
theorem dX0_explainsAll_1 : decode cX0_explainsAll 1 = .ok (.iload_n 1, 1) := by decide +kernel
theorem dX0_explainsAll_2 : decode cX0_explainsAll 2 = .ok (.invokevirtual 64, 3) := by decide +kernel
theorem dX0_explainsAll_5 : decode cX0_explainsAll 5 = .ok (.aload_n 0, 1) := by decide +kernel
theorem dX0_explainsAll_6 : decode cX0_explainsAll 6 = .ok (.iload_n 1, 1) := by decide +kernel
theorem dX0_explainsAll_7 : decode cX0_explainsAll 7 = .ok (.invokevirtual 105, 3) := by decide +kernel
theorem dX0_explainsAll_10 : decode cX0_explainsAll 10 = .ok (.ifCond .ne 7, 3) := by decide +kernel
theorem dX0_explainsAll_13 : decode cX0_explainsAll 13 = .ok (.iconst 1, 1) := by decide +kernel
theorem dX0_explainsAll_14 : decode cX0_explainsAll 14 = .ok (.goto 4, 3) := by decide +kernel
theorem dX0_explainsAll_17 : decode cX0_explainsAll 17 = .ok (.iconst 0, 1) := by decide +kernel
theorem dX0_explainsAll_18 : decode cX0_explainsAll 18 = .ok (.ireturn, 1) := by decide +kernel
set_option maxRecDepth 20000 in
theorem ggX0_explanations_X0_allThings : GoodIn wsX0_explanations wsX0_allThings := goodIn_r _ [5, 6, 12, 13, 14, 15, 16, 17, 18, 19, 20, 21] (by decide +kernel) (by decide +kernel)
set_option maxRecDepth 20000 in
theorem gX0_explanations_X0_allThings : GoodIn wsX0_explanations (wsV RX0 111 RX0 yX0_allThings wsX0_allThings) := goodIn_app (goodIn_of _ (by decide +kernel)) ggX0_explanations_X0_allThings
set_option maxRecDepth 20000 in
theorem ggX0_explanations_X0_missesOf : GoodIn wsX0_explanations wsX0_missesOf := goodIn_r _ [10, 11, 12, 13, 14, 15, 16, 17, 18, 19, 20, 21] (by decide +kernel) (by decide +kernel)
set_option maxRecDepth 20000 in
theorem gX0_explanations_X0_missesOf : GoodIn wsX0_explanations (wsV RX0 105 RX0 yX0_missesOf wsX0_missesOf) := goodIn_app (goodIn_of _ (by decide +kernel)) ggX0_explanations_X0_missesOf
theorem dX0_explanations_0 : decode cX0_explanations 0 = .ok (.iconst 0, 1) := by decide +kernel
theorem dX0_explanations_1 : decode cX0_explanations 1 = .ok (.istore_n 1, 1) := by decide +kernel
theorem dX0_explanations_2 : decode cX0_explanations 2 = .ok (.iconst 0, 1) := by decide +kernel
theorem dX0_explanations_3 : decode cX0_explanations 3 = .ok (.istore_n 2, 1) := by decide +kernel
theorem dX0_explanations_4 : decode cX0_explanations 4 = .ok (.iload_n 2, 1) := by decide +kernel
theorem dX0_explanations_5 : decode cX0_explanations 5 = .ok (.aload_n 0, 1) := by decide +kernel
theorem dX0_explanations_6 : decode cX0_explanations 6 = .ok (.invokevirtual 111, 3) := by decide +kernel
theorem dX0_explanations_9 : decode cX0_explanations 9 = .ok (.if_icmp .gt 20, 3) := by decide +kernel
theorem dX0_explanations_12 : decode cX0_explanations 12 = .ok (.aload_n 0, 1) := by decide +kernel
theorem dX0_explanations_13 : decode cX0_explanations 13 = .ok (.iload_n 2, 1) := by decide +kernel
theorem dX0_explanations_14 : decode cX0_explanations 14 = .ok (.invokevirtual 105, 3) := by decide +kernel
theorem dX0_explanations_17 : decode cX0_explanations 17 = .ok (.ifCond .ne 6, 3) := by decide +kernel
theorem dX0_explanations_20 : decode cX0_explanations 20 = .ok (.iinc 1 1, 3) := by decide +kernel
theorem dX0_explanations_23 : decode cX0_explanations 23 = .ok (.iinc 2 1, 3) := by decide +kernel
theorem dX0_explanations_26 : decode cX0_explanations 26 = .ok (.goto (-22), 3) := by decide +kernel
theorem dX0_explanations_29 : decode cX0_explanations 29 = .ok (.iload_n 1, 1) := by decide +kernel
theorem dX0_explanations_30 : decode cX0_explanations 30 = .ok (.ireturn, 1) := by decide +kernel
set_option maxRecDepth 20000 in
theorem ggX0_simplest_X0_allThings : GoodIn wsX0_simplest wsX0_allThings := goodIn_r _ [5, 6, 19, 20, 21, 22, 23, 24, 25, 26, 27, 28] (by decide +kernel) (by decide +kernel)
set_option maxRecDepth 20000 in
theorem gX0_simplest_X0_allThings : GoodIn wsX0_simplest (wsV RX0 111 RX0 yX0_allThings wsX0_allThings) := goodIn_app (goodIn_of _ (by decide +kernel)) ggX0_simplest_X0_allThings
set_option maxRecDepth 20000 in
theorem ggX0_simplest_X0_missesOf : GoodIn wsX0_simplest wsX0_missesOf := goodIn_r _ [10, 11, 19, 20, 21, 22, 23, 24, 25, 26, 27, 28] (by decide +kernel) (by decide +kernel)
set_option maxRecDepth 20000 in
theorem gX0_simplest_X0_missesOf : GoodIn wsX0_simplest (wsV RX0 105 RX0 yX0_missesOf wsX0_missesOf) := goodIn_app (goodIn_of _ (by decide +kernel)) ggX0_simplest_X0_missesOf
set_option maxRecDepth 20000 in
theorem ggX0_simplest_J6_bitCount_0f7a4 : GoodIn wsX0_simplest wsJ6_bitCount_0f7a4 := goodIn_r _ [15, 16, 17, 18] (by decide +kernel) (by decide +kernel)
set_option maxRecDepth 20000 in
theorem gX0_simplest_J6_bitCount_0f7a4 : GoodIn wsX0_simplest (va_wsS RX0 114 yJ6_bitCount_0f7a4 wsJ6_bitCount_0f7a4) := goodIn_app (goodIn_of _ (by decide +kernel)) ggX0_simplest_J6_bitCount_0f7a4
theorem dX0_simplest_0 : decode cX0_simplest 0 = .ok (.iconst (-1), 1) := by decide +kernel
theorem dX0_simplest_1 : decode cX0_simplest 1 = .ok (.istore_n 1, 1) := by decide +kernel
theorem dX0_simplest_2 : decode cX0_simplest 2 = .ok (.bipush 9, 2) := by decide +kernel
theorem dX0_simplest_4 : decode cX0_simplest 4 = .ok (.istore_n 2, 1) := by decide +kernel
theorem dX0_simplest_5 : decode cX0_simplest 5 = .ok (.iconst 0, 1) := by decide +kernel
theorem dX0_simplest_6 : decode cX0_simplest 6 = .ok (.istore_n 3, 1) := by decide +kernel
theorem dX0_simplest_7 : decode cX0_simplest 7 = .ok (.iload_n 3, 1) := by decide +kernel
theorem dX0_simplest_8 : decode cX0_simplest 8 = .ok (.aload_n 0, 1) := by decide +kernel
theorem dX0_simplest_9 : decode cX0_simplest 9 = .ok (.invokevirtual 111, 3) := by decide +kernel
theorem dX0_simplest_12 : decode cX0_simplest 12 = .ok (.if_icmp .gt 32, 3) := by decide +kernel
theorem dX0_simplest_15 : decode cX0_simplest 15 = .ok (.aload_n 0, 1) := by decide +kernel
theorem dX0_simplest_16 : decode cX0_simplest 16 = .ok (.iload_n 3, 1) := by decide +kernel
theorem dX0_simplest_17 : decode cX0_simplest 17 = .ok (.invokevirtual 105, 3) := by decide +kernel
theorem dX0_simplest_20 : decode cX0_simplest 20 = .ok (.ifCond .ne 18, 3) := by decide +kernel
theorem dX0_simplest_23 : decode cX0_simplest 23 = .ok (.iload_n 3, 1) := by decide +kernel
theorem dX0_simplest_24 : decode cX0_simplest 24 = .ok (.invokestatic 114, 3) := by decide +kernel
theorem dX0_simplest_27 : decode cX0_simplest 27 = .ok (.iload_n 2, 1) := by decide +kernel
theorem dX0_simplest_28 : decode cX0_simplest 28 = .ok (.if_icmp .ge 10, 3) := by decide +kernel
theorem dX0_simplest_31 : decode cX0_simplest 31 = .ok (.iload_n 3, 1) := by decide +kernel
theorem dX0_simplest_32 : decode cX0_simplest 32 = .ok (.istore_n 1, 1) := by decide +kernel
theorem dX0_simplest_33 : decode cX0_simplest 33 = .ok (.iload_n 3, 1) := by decide +kernel
theorem dX0_simplest_34 : decode cX0_simplest 34 = .ok (.invokestatic 114, 3) := by decide +kernel
theorem dX0_simplest_37 : decode cX0_simplest 37 = .ok (.istore_n 2, 1) := by decide +kernel
theorem dX0_simplest_38 : decode cX0_simplest 38 = .ok (.iinc 3 1, 3) := by decide +kernel
theorem dX0_simplest_41 : decode cX0_simplest 41 = .ok (.goto (-34), 3) := by decide +kernel
theorem dX0_simplest_44 : decode cX0_simplest 44 = .ok (.iload_n 1, 1) := by decide +kernel
theorem dX0_simplest_45 : decode cX0_simplest 45 = .ok (.ireturn, 1) := by decide +kernel
set_option maxRecDepth 20000 in
theorem ggX0_surelyToBlame_X0_agree : GoodIn wsX0_surelyToBlame wsX0_agree := goodIn_r _ [5, 6, 7, 8, 4, 9, 10, 11, 12, 13, 14, 15, 16, 17, 18, 19, 20, 21, 22, 23, 24, 25, 26, 27, 28, 29, 30, 31, 32, 33, 34] (by decide +kernel) (by decide +kernel)
set_option maxRecDepth 20000 in
theorem gX0_surelyToBlame_X0_agree : GoodIn wsX0_surelyToBlame (wsV RX0 119 RX0 yX0_agree wsX0_agree) := goodIn_app (goodIn_of _ (by decide +kernel)) ggX0_surelyToBlame_X0_agree
set_option maxRecDepth 20000 in
theorem ggX0_surelyToBlame_X0_allThings : GoodIn wsX0_surelyToBlame wsX0_allThings := goodIn_r _ [18, 19, 25, 26, 27, 28, 29, 30, 31, 32, 33, 34] (by decide +kernel) (by decide +kernel)
set_option maxRecDepth 20000 in
theorem gX0_surelyToBlame_X0_allThings : GoodIn wsX0_surelyToBlame (wsV RX0 111 RX0 yX0_allThings wsX0_allThings) := goodIn_app (goodIn_of _ (by decide +kernel)) ggX0_surelyToBlame_X0_allThings
set_option maxRecDepth 20000 in
theorem ggX0_surelyToBlame_X0_missesOf : GoodIn wsX0_surelyToBlame wsX0_missesOf := goodIn_r _ [23, 24, 25, 26, 27, 28, 29, 30, 31, 32, 33, 34] (by decide +kernel) (by decide +kernel)
set_option maxRecDepth 20000 in
theorem gX0_surelyToBlame_X0_missesOf : GoodIn wsX0_surelyToBlame (wsV RX0 105 RX0 yX0_missesOf wsX0_missesOf) := goodIn_app (goodIn_of _ (by decide +kernel)) ggX0_surelyToBlame_X0_missesOf
theorem dX0_surelyToBlame_0 : decode cX0_surelyToBlame 0 = .ok (.aload_n 0, 1) := by decide +kernel
theorem dX0_surelyToBlame_1 : decode cX0_surelyToBlame 1 = .ok (.invokevirtual 119, 3) := by decide +kernel
theorem dX0_surelyToBlame_4 : decode cX0_surelyToBlame 4 = .ok (.ifCond .ne 5, 3) := by decide +kernel
theorem dX0_surelyToBlame_7 : decode cX0_surelyToBlame 7 = .ok (.iconst (-1), 1) := by decide +kernel
theorem dX0_surelyToBlame_8 : decode cX0_surelyToBlame 8 = .ok (.ireturn, 1) := by decide +kernel
theorem dX0_surelyToBlame_9 : decode cX0_surelyToBlame 9 = .ok (.aload_n 0, 1) := by decide +kernel
theorem dX0_surelyToBlame_10 : decode cX0_surelyToBlame 10 = .ok (.invokevirtual 111, 3) := by decide +kernel
theorem dX0_surelyToBlame_13 : decode cX0_surelyToBlame 13 = .ok (.istore_n 1, 1) := by decide +kernel
theorem dX0_surelyToBlame_14 : decode cX0_surelyToBlame 14 = .ok (.iconst 0, 1) := by decide +kernel
theorem dX0_surelyToBlame_15 : decode cX0_surelyToBlame 15 = .ok (.istore_n 2, 1) := by decide +kernel
theorem dX0_surelyToBlame_16 : decode cX0_surelyToBlame 16 = .ok (.iload_n 2, 1) := by decide +kernel
theorem dX0_surelyToBlame_17 : decode cX0_surelyToBlame 17 = .ok (.aload_n 0, 1) := by decide +kernel
theorem dX0_surelyToBlame_18 : decode cX0_surelyToBlame 18 = .ok (.invokevirtual 111, 3) := by decide +kernel
theorem dX0_surelyToBlame_21 : decode cX0_surelyToBlame 21 = .ok (.if_icmp .gt 21, 3) := by decide +kernel
theorem dX0_surelyToBlame_24 : decode cX0_surelyToBlame 24 = .ok (.aload_n 0, 1) := by decide +kernel
theorem dX0_surelyToBlame_25 : decode cX0_surelyToBlame 25 = .ok (.iload_n 2, 1) := by decide +kernel
theorem dX0_surelyToBlame_26 : decode cX0_surelyToBlame 26 = .ok (.invokevirtual 105, 3) := by decide +kernel
theorem dX0_surelyToBlame_29 : decode cX0_surelyToBlame 29 = .ok (.ifCond .ne 7, 3) := by decide +kernel
theorem dX0_surelyToBlame_32 : decode cX0_surelyToBlame 32 = .ok (.iload_n 1, 1) := by decide +kernel
theorem dX0_surelyToBlame_33 : decode cX0_surelyToBlame 33 = .ok (.iload_n 2, 1) := by decide +kernel
theorem dX0_surelyToBlame_34 : decode cX0_surelyToBlame 34 = .ok (.iand, 1) := by decide +kernel
theorem dX0_surelyToBlame_35 : decode cX0_surelyToBlame 35 = .ok (.istore_n 1, 1) := by decide +kernel
theorem dX0_surelyToBlame_36 : decode cX0_surelyToBlame 36 = .ok (.iinc 2 1, 3) := by decide +kernel
theorem dX0_surelyToBlame_39 : decode cX0_surelyToBlame 39 = .ok (.goto (-23), 3) := by decide +kernel
theorem dX0_surelyToBlame_42 : decode cX0_surelyToBlame 42 = .ok (.iload_n 1, 1) := by decide +kernel
theorem dX0_surelyToBlame_43 : decode cX0_surelyToBlame 43 = .ok (.ireturn, 1) := by decide +kernel
set_option maxRecDepth 20000 in
theorem ggX0_nightsToDoubt_X0_allThings : GoodIn wsX0_nightsToDoubt wsX0_allThings := goodIn_r _ [10, 11, 17, 18, 19, 20, 21, 22, 23, 24, 25, 26] (by decide +kernel) (by decide +kernel)
set_option maxRecDepth 20000 in
theorem gX0_nightsToDoubt_X0_allThings : GoodIn wsX0_nightsToDoubt (wsV RX0 111 RX0 yX0_allThings wsX0_allThings) := goodIn_app (goodIn_of _ (by decide +kernel)) ggX0_nightsToDoubt_X0_allThings
set_option maxRecDepth 20000 in
theorem ggX0_nightsToDoubt_X0_missesOf : GoodIn wsX0_nightsToDoubt wsX0_missesOf := goodIn_r _ [15, 16, 17, 18, 19, 20, 21, 22, 23, 24, 25, 26] (by decide +kernel) (by decide +kernel)
set_option maxRecDepth 20000 in
theorem gX0_nightsToDoubt_X0_missesOf : GoodIn wsX0_nightsToDoubt (wsV RX0 105 RX0 yX0_missesOf wsX0_missesOf) := goodIn_app (goodIn_of _ (by decide +kernel)) ggX0_nightsToDoubt_X0_missesOf
theorem dX0_nightsToDoubt_0 : decode cX0_nightsToDoubt 0 = .ok (.aload_n 0, 1) := by decide +kernel
theorem dX0_nightsToDoubt_1 : decode cX0_nightsToDoubt 1 = .ok (.getfield 13, 3) := by decide +kernel
theorem dX0_nightsToDoubt_4 : decode cX0_nightsToDoubt 4 = .ok (.istore_n 1, 1) := by decide +kernel
theorem dX0_nightsToDoubt_5 : decode cX0_nightsToDoubt 5 = .ok (.iconst 0, 1) := by decide +kernel
theorem dX0_nightsToDoubt_6 : decode cX0_nightsToDoubt 6 = .ok (.istore_n 2, 1) := by decide +kernel
theorem dX0_nightsToDoubt_7 : decode cX0_nightsToDoubt 7 = .ok (.iload_n 2, 1) := by decide +kernel
theorem dX0_nightsToDoubt_8 : decode cX0_nightsToDoubt 8 = .ok (.aload_n 0, 1) := by decide +kernel
theorem dX0_nightsToDoubt_9 : decode cX0_nightsToDoubt 9 = .ok (.invokevirtual 111, 3) := by decide +kernel
theorem dX0_nightsToDoubt_12 : decode cX0_nightsToDoubt 12 = .ok (.if_icmp .gt 19, 3) := by decide +kernel
theorem dX0_nightsToDoubt_15 : decode cX0_nightsToDoubt 15 = .ok (.iload_n 1, 1) := by decide +kernel
theorem dX0_nightsToDoubt_16 : decode cX0_nightsToDoubt 16 = .ok (.aload_n 0, 1) := by decide +kernel
theorem dX0_nightsToDoubt_17 : decode cX0_nightsToDoubt 17 = .ok (.iload_n 2, 1) := by decide +kernel
theorem dX0_nightsToDoubt_18 : decode cX0_nightsToDoubt 18 = .ok (.invokevirtual 105, 3) := by decide +kernel
theorem dX0_nightsToDoubt_21 : decode cX0_nightsToDoubt 21 = .ok (.invokestatic 123, 3) := by decide +kernel
theorem dX0_nightsToDoubt_24 : decode cX0_nightsToDoubt 24 = .ok (.istore_n 1, 1) := by decide +kernel
theorem dX0_nightsToDoubt_25 : decode cX0_nightsToDoubt 25 = .ok (.iinc 2 1, 3) := by decide +kernel
theorem dX0_nightsToDoubt_28 : decode cX0_nightsToDoubt 28 = .ok (.goto (-21), 3) := by decide +kernel
theorem dX0_nightsToDoubt_31 : decode cX0_nightsToDoubt 31 = .ok (.iload_n 1, 1) := by decide +kernel
theorem dX0_nightsToDoubt_32 : decode cX0_nightsToDoubt 32 = .ok (.ireturn, 1) := by decide +kernel
set_option maxRecDepth 20000 in
theorem ggX0_leftIfSmudged_X0_requireUsableSet : GoodIn wsX0_leftIfSmudged wsX0_requireUsableSet := goodIn_ca (goodIn_r _ [5, 6, 7, 8, 9, 10, 4, 11, 12, 22, 23, 24, 25, 26, 27, 28, 29, 30, 31] (by decide +kernel) (by decide +kernel)) (goodIn_sub (fun _ h => List.mem_cons_of_mem _ (List.mem_append_right _ h)) (by decide +kernel))
set_option maxRecDepth 20000 in
theorem gX0_leftIfSmudged_X0_requireUsableSet : GoodIn wsX0_leftIfSmudged (wsV RX0 67 RX0 yX0_requireUsableSet wsX0_requireUsableSet) := goodIn_app (goodIn_of _ (by decide +kernel)) ggX0_leftIfSmudged_X0_requireUsableSet
set_option maxRecDepth 20000 in
theorem ggX0_leftIfSmudged_X0_explanationsMeeting : GoodIn wsX0_leftIfSmudged wsX0_explanationsMeeting := goodIn_r _ [16, 8, 9, 10, 4, 11, 12, 17, 18, 19, 20, 21, 22, 23, 24, 25, 26, 27, 28, 29, 30, 31] (by decide +kernel) (by decide +kernel)
set_option maxRecDepth 20000 in
theorem gX0_leftIfSmudged_X0_explanationsMeeting : GoodIn wsX0_leftIfSmudged (wsV RX0 99 RX0 yX0_explanationsMeeting wsX0_explanationsMeeting) := goodIn_app (goodIn_of _ (by decide +kernel)) ggX0_leftIfSmudged_X0_explanationsMeeting
theorem dX0_leftIfSmudged_0 : decode cX0_leftIfSmudged 0 = .ok (.aload_n 0, 1) := by decide +kernel
theorem dX0_leftIfSmudged_1 : decode cX0_leftIfSmudged 1 = .ok (.iload_n 1, 1) := by decide +kernel
theorem dX0_leftIfSmudged_2 : decode cX0_leftIfSmudged 2 = .ok (.invokevirtual 67, 3) := by decide +kernel
theorem dX0_leftIfSmudged_5 : decode cX0_leftIfSmudged 5 = .ok (.aload_n 0, 1) := by decide +kernel
theorem dX0_leftIfSmudged_6 : decode cX0_leftIfSmudged 6 = .ok (.iload_n 1, 1) := by decide +kernel
theorem dX0_leftIfSmudged_7 : decode cX0_leftIfSmudged 7 = .ok (.invokevirtual 99, 3) := by decide +kernel
theorem dX0_leftIfSmudged_10 : decode cX0_leftIfSmudged 10 = .ok (.ireturn, 1) := by decide +kernel
set_option maxRecDepth 20000 in
theorem ggX0_bestNight_X0_explanations : GoodIn wsX0_bestNight wsX0_explanations := goodIn_r _ [9, 10, 11, 12, 8, 13, 14, 15, 16, 17, 18, 19, 24, 25, 26, 27, 28, 29, 30, 31, 32, 33] (by decide +kernel) (by decide +kernel)
set_option maxRecDepth 20000 in
theorem gX0_bestNight_X0_explanations : GoodIn wsX0_bestNight (wsV RX0 129 RX0 yX0_explanations wsX0_explanations) := goodIn_app (goodIn_of _ (by decide +kernel)) ggX0_bestNight_X0_explanations
set_option maxRecDepth 20000 in
theorem ggX0_bestNight_X0_allThings : GoodIn wsX0_bestNight wsX0_allThings := goodIn_r _ [13, 14, 24, 25, 26, 27, 28, 29, 30, 31, 32, 33] (by decide +kernel) (by decide +kernel)
set_option maxRecDepth 20000 in
theorem gX0_bestNight_X0_allThings : GoodIn wsX0_bestNight (wsV RX0 111 RX0 yX0_allThings wsX0_allThings) := goodIn_app (goodIn_of _ (by decide +kernel)) ggX0_bestNight_X0_allThings
set_option maxRecDepth 20000 in
theorem ggX0_bestNight_X0_explanationsMeeting : GoodIn wsX0_bestNight wsX0_explanationsMeeting := goodIn_r _ [23, 10, 11, 12, 8, 13, 14, 15, 16, 17, 18, 19, 24, 25, 26, 27, 28, 29, 30, 31, 32, 33] (by decide +kernel) (by decide +kernel)
set_option maxRecDepth 20000 in
theorem gX0_bestNight_X0_explanationsMeeting : GoodIn wsX0_bestNight (wsV RX0 99 RX0 yX0_explanationsMeeting wsX0_explanationsMeeting) := goodIn_app (goodIn_of _ (by decide +kernel)) ggX0_bestNight_X0_explanationsMeeting
theorem dX0_bestNight_0 : decode cX0_bestNight 0 = .ok (.iconst (-1), 1) := by decide +kernel
theorem dX0_bestNight_1 : decode cX0_bestNight 1 = .ok (.istore_n 1, 1) := by decide +kernel
theorem dX0_bestNight_2 : decode cX0_bestNight 2 = .ok (.sipush 257, 3) := by decide +kernel
theorem dX0_bestNight_5 : decode cX0_bestNight 5 = .ok (.istore_n 2, 1) := by decide +kernel
theorem dX0_bestNight_6 : decode cX0_bestNight 6 = .ok (.aload_n 0, 1) := by decide +kernel
theorem dX0_bestNight_7 : decode cX0_bestNight 7 = .ok (.invokevirtual 129, 3) := by decide +kernel
theorem dX0_bestNight_10 : decode cX0_bestNight 10 = .ok (.istore_n 3, 1) := by decide +kernel
theorem dX0_bestNight_11 : decode cX0_bestNight 11 = .ok (.iload_n 3, 1) := by decide +kernel
theorem dX0_bestNight_12 : decode cX0_bestNight 12 = .ok (.iconst 1, 1) := by decide +kernel
theorem dX0_bestNight_13 : decode cX0_bestNight 13 = .ok (.iadd, 1) := by decide +kernel
theorem dX0_bestNight_14 : decode cX0_bestNight 14 = .ok (.iconst 2, 1) := by decide +kernel
theorem dX0_bestNight_15 : decode cX0_bestNight 15 = .ok (.idiv, 1) := by decide +kernel
theorem dX0_bestNight_16 : decode cX0_bestNight 16 = .ok (.istore 4, 2) := by decide +kernel
theorem dX0_bestNight_18 : decode cX0_bestNight 18 = .ok (.iconst 1, 1) := by decide +kernel
theorem dX0_bestNight_19 : decode cX0_bestNight 19 = .ok (.istore 5, 2) := by decide +kernel
theorem dX0_bestNight_21 : decode cX0_bestNight 21 = .ok (.iload 5, 2) := by decide +kernel
theorem dX0_bestNight_23 : decode cX0_bestNight 23 = .ok (.aload_n 0, 1) := by decide +kernel
theorem dX0_bestNight_24 : decode cX0_bestNight 24 = .ok (.invokevirtual 111, 3) := by decide +kernel
theorem dX0_bestNight_27 : decode cX0_bestNight 27 = .ok (.if_icmp .gt 46, 3) := by decide +kernel
theorem dX0_bestNight_30 : decode cX0_bestNight 30 = .ok (.iload_n 2, 1) := by decide +kernel
theorem dX0_bestNight_31 : decode cX0_bestNight 31 = .ok (.iload 4, 2) := by decide +kernel
theorem dX0_bestNight_33 : decode cX0_bestNight 33 = .ok (.if_icmp .le 40, 3) := by decide +kernel
theorem dX0_bestNight_36 : decode cX0_bestNight 36 = .ok (.aload_n 0, 1) := by decide +kernel
theorem dX0_bestNight_37 : decode cX0_bestNight 37 = .ok (.iload 5, 2) := by decide +kernel
theorem dX0_bestNight_39 : decode cX0_bestNight 39 = .ok (.invokevirtual 99, 3) := by decide +kernel
theorem dX0_bestNight_42 : decode cX0_bestNight 42 = .ok (.istore 6, 2) := by decide +kernel
theorem dX0_bestNight_44 : decode cX0_bestNight 44 = .ok (.iload 6, 2) := by decide +kernel
theorem dX0_bestNight_46 : decode cX0_bestNight 46 = .ok (.iload_n 3, 1) := by decide +kernel
theorem dX0_bestNight_47 : decode cX0_bestNight 47 = .ok (.iload 6, 2) := by decide +kernel
theorem dX0_bestNight_49 : decode cX0_bestNight 49 = .ok (.isub, 1) := by decide +kernel
theorem dX0_bestNight_50 : decode cX0_bestNight 50 = .ok (.invokestatic 132, 3) := by decide +kernel
theorem dX0_bestNight_53 : decode cX0_bestNight 53 = .ok (.istore 7, 2) := by decide +kernel
theorem dX0_bestNight_55 : decode cX0_bestNight 55 = .ok (.iload 7, 2) := by decide +kernel
theorem dX0_bestNight_57 : decode cX0_bestNight 57 = .ok (.iload_n 2, 1) := by decide +kernel
theorem dX0_bestNight_58 : decode cX0_bestNight 58 = .ok (.if_icmp .ge 9, 3) := by decide +kernel
theorem dX0_bestNight_61 : decode cX0_bestNight 61 = .ok (.iload 5, 2) := by decide +kernel
theorem dX0_bestNight_63 : decode cX0_bestNight 63 = .ok (.istore_n 1, 1) := by decide +kernel
theorem dX0_bestNight_64 : decode cX0_bestNight 64 = .ok (.iload 7, 2) := by decide +kernel
theorem dX0_bestNight_66 : decode cX0_bestNight 66 = .ok (.istore_n 2, 1) := by decide +kernel
theorem dX0_bestNight_67 : decode cX0_bestNight 67 = .ok (.iinc 5 1, 3) := by decide +kernel
theorem dX0_bestNight_70 : decode cX0_bestNight 70 = .ok (.goto (-49), 3) := by decide +kernel
theorem dX0_bestNight_73 : decode cX0_bestNight 73 = .ok (.iload_n 1, 1) := by decide +kernel
theorem dX0_bestNight_74 : decode cX0_bestNight 74 = .ok (.ireturn, 1) := by decide +kernel
set_option maxRecDepth 20000 in
theorem ggX0_wouldChange_X0_requireUsableSet : GoodIn wsX0_wouldChange wsX0_requireUsableSet := goodIn_ca (goodIn_r _ [8, 9, 10, 11, 12, 13, 7, 14, 15, 35, 36, 37, 38, 39, 40, 41, 42, 43, 44] (by decide +kernel) (by decide +kernel)) (goodIn_sub (fun _ h => List.mem_cons_of_mem _ (List.mem_append_left _ (List.mem_append_right _ h))) (by decide +kernel))
set_option maxRecDepth 20000 in
theorem gX0_wouldChange_X0_requireUsableSet : GoodIn wsX0_wouldChange (wsV RX0 67 RX0 yX0_requireUsableSet wsX0_requireUsableSet) := goodIn_app (goodIn_of _ (by decide +kernel)) ggX0_wouldChange_X0_requireUsableSet
set_option maxRecDepth 20000 in
theorem ggX0_wouldChange_X0_requireRoomForNight : GoodIn wsX0_wouldChange wsX0_requireRoomForNight := goodIn_ca (goodIn_r _ [19, 20, 21, 22, 35, 36, 37, 38, 39, 40, 41, 42, 43, 44] (by decide +kernel) (by decide +kernel)) (goodIn_sub (fun _ h => List.mem_cons_of_mem _ (List.mem_append_right _ h)) (by decide +kernel))
set_option maxRecDepth 20000 in
theorem gX0_wouldChange_X0_requireRoomForNight : GoodIn wsX0_wouldChange (wsV RX0 70 RX0 yX0_requireRoomForNight wsX0_requireRoomForNight) := goodIn_app (goodIn_of _ (by decide +kernel)) ggX0_wouldChange_X0_requireRoomForNight
set_option maxRecDepth 20000 in
theorem ggX0_wouldChange_X0_wouldAgreeWith : GoodIn wsX0_wouldChange wsX0_wouldAgreeWith := goodIn_r _ [26, 11, 12, 13, 7, 14, 15, 27, 28, 29, 30, 31, 32, 33, 34, 35, 36, 37, 38, 39, 40, 41, 42, 43, 44] (by decide +kernel) (by decide +kernel)
set_option maxRecDepth 20000 in
theorem gX0_wouldChange_X0_wouldAgreeWith : GoodIn wsX0_wouldChange (wsV RX0 135 RX0 yX0_wouldAgreeWith wsX0_wouldAgreeWith) := goodIn_app (goodIn_of _ (by decide +kernel)) ggX0_wouldChange_X0_wouldAgreeWith
set_option maxRecDepth 20000 in
theorem ggX0_wouldChange_X0_explains : GoodIn wsX0_wouldChange wsX0_explains := goodIn_r _ [34] (by decide +kernel) (by decide +kernel)
set_option maxRecDepth 20000 in
theorem gX0_wouldChange_X0_explains : GoodIn wsX0_wouldChange (va_wsS RX0 139 yX0_explains wsX0_explains) := goodIn_app (goodIn_of _ (by decide +kernel)) ggX0_wouldChange_X0_explains
theorem dX0_wouldChange_0 : decode cX0_wouldChange 0 = .ok (.aload_n 0, 1) := by decide +kernel
theorem dX0_wouldChange_1 : decode cX0_wouldChange 1 = .ok (.iload_n 1, 1) := by decide +kernel
theorem dX0_wouldChange_2 : decode cX0_wouldChange 2 = .ok (.invokevirtual 67, 3) := by decide +kernel
theorem dX0_wouldChange_5 : decode cX0_wouldChange 5 = .ok (.aload_n 0, 1) := by decide +kernel
theorem dX0_wouldChange_6 : decode cX0_wouldChange 6 = .ok (.invokevirtual 70, 3) := by decide +kernel
theorem dX0_wouldChange_9 : decode cX0_wouldChange 9 = .ok (.aload_n 0, 1) := by decide +kernel
theorem dX0_wouldChange_10 : decode cX0_wouldChange 10 = .ok (.iload_n 1, 1) := by decide +kernel
theorem dX0_wouldChange_11 : decode cX0_wouldChange 11 = .ok (.iload_n 2, 1) := by decide +kernel
theorem dX0_wouldChange_12 : decode cX0_wouldChange 12 = .ok (.invokevirtual 135, 3) := by decide +kernel
theorem dX0_wouldChange_15 : decode cX0_wouldChange 15 = .ok (.ifCond .ne 5, 3) := by decide +kernel
theorem dX0_wouldChange_18 : decode cX0_wouldChange 18 = .ok (.iconst 0, 1) := by decide +kernel
theorem dX0_wouldChange_19 : decode cX0_wouldChange 19 = .ok (.ireturn, 1) := by decide +kernel
theorem dX0_wouldChange_20 : decode cX0_wouldChange 20 = .ok (.iconst 0, 1) := by decide +kernel
theorem dX0_wouldChange_21 : decode cX0_wouldChange 21 = .ok (.istore_n 3, 1) := by decide +kernel
theorem dX0_wouldChange_22 : decode cX0_wouldChange 22 = .ok (.iconst 0, 1) := by decide +kernel
theorem dX0_wouldChange_23 : decode cX0_wouldChange 23 = .ok (.istore 4, 2) := by decide +kernel
theorem dX0_wouldChange_25 : decode cX0_wouldChange 25 = .ok (.iload 4, 2) := by decide +kernel
theorem dX0_wouldChange_27 : decode cX0_wouldChange 27 = .ok (.aload_n 0, 1) := by decide +kernel
theorem dX0_wouldChange_28 : decode cX0_wouldChange 28 = .ok (.getfield 27, 3) := by decide +kernel
theorem dX0_wouldChange_31 : decode cX0_wouldChange 31 = .ok (.if_icmp .ge 37, 3) := by decide +kernel
theorem dX0_wouldChange_34 : decode cX0_wouldChange 34 = .ok (.aload_n 0, 1) := by decide +kernel
theorem dX0_wouldChange_35 : decode cX0_wouldChange 35 = .ok (.getfield 30, 3) := by decide +kernel
theorem dX0_wouldChange_38 : decode cX0_wouldChange 38 = .ok (.iload 4, 2) := by decide +kernel
theorem dX0_wouldChange_40 : decode cX0_wouldChange 40 = .ok (.iaload, 1) := by decide +kernel
theorem dX0_wouldChange_41 : decode cX0_wouldChange 41 = .ok (.iload_n 1, 1) := by decide +kernel
theorem dX0_wouldChange_42 : decode cX0_wouldChange 42 = .ok (.iload_n 2, 1) := by decide +kernel
theorem dX0_wouldChange_43 : decode cX0_wouldChange 43 = .ok (.invokestatic 139, 3) := by decide +kernel
theorem dX0_wouldChange_46 : decode cX0_wouldChange 46 = .ok (.ifCond .ne 16, 3) := by decide +kernel
theorem dX0_wouldChange_49 : decode cX0_wouldChange 49 = .ok (.aload_n 0, 1) := by decide +kernel
theorem dX0_wouldChange_50 : decode cX0_wouldChange 50 = .ok (.getfield 33, 3) := by decide +kernel
theorem dX0_wouldChange_53 : decode cX0_wouldChange 53 = .ok (.iload 4, 2) := by decide +kernel
theorem dX0_wouldChange_55 : decode cX0_wouldChange 55 = .ok (.iaload, 1) := by decide +kernel
theorem dX0_wouldChange_56 : decode cX0_wouldChange 56 = .ok (.ifCond .ne 6, 3) := by decide +kernel
theorem dX0_wouldChange_59 : decode cX0_wouldChange 59 = .ok (.iinc 3 1, 3) := by decide +kernel
theorem dX0_wouldChange_62 : decode cX0_wouldChange 62 = .ok (.iinc 4 1, 3) := by decide +kernel
theorem dX0_wouldChange_65 : decode cX0_wouldChange 65 = .ok (.goto (-40), 3) := by decide +kernel
theorem dX0_wouldChange_68 : decode cX0_wouldChange 68 = .ok (.iload_n 3, 1) := by decide +kernel
theorem dX0_wouldChange_69 : decode cX0_wouldChange 69 = .ok (.ireturn, 1) := by decide +kernel
set_option maxRecDepth 20000 in
theorem ggX0_meanBlame_J6_bitCount_0f7a4 : GoodIn wsX0_meanBlame wsJ6_bitCount_0f7a4 := goodIn_r _ [6, 7, 8, 9] (by decide +kernel) (by decide +kernel)
set_option maxRecDepth 20000 in
theorem gX0_meanBlame_J6_bitCount_0f7a4 : GoodIn wsX0_meanBlame (va_wsS RX0 114 yJ6_bitCount_0f7a4 wsJ6_bitCount_0f7a4) := goodIn_app (goodIn_of _ (by decide +kernel)) ggX0_meanBlame_J6_bitCount_0f7a4
theorem dX0_meanBlame_0 : decode cX0_meanBlame 0 = .ok (.aload_n 0, 1) := by decide +kernel
theorem dX0_meanBlame_1 : decode cX0_meanBlame 1 = .ok (.getfield 27, 3) := by decide +kernel
theorem dX0_meanBlame_4 : decode cX0_meanBlame 4 = .ok (.ifCond .ne 5, 3) := by decide +kernel
theorem dX0_meanBlame_7 : decode cX0_meanBlame 7 = .ok (.dconst 0, 1) := by decide +kernel
theorem dX0_meanBlame_8 : decode cX0_meanBlame 8 = .ok (.dreturn, 1) := by decide +kernel
theorem dX0_meanBlame_9 : decode cX0_meanBlame 9 = .ok (.iconst 0, 1) := by decide +kernel
theorem dX0_meanBlame_10 : decode cX0_meanBlame 10 = .ok (.istore_n 1, 1) := by decide +kernel
theorem dX0_meanBlame_11 : decode cX0_meanBlame 11 = .ok (.iconst 0, 1) := by decide +kernel
theorem dX0_meanBlame_12 : decode cX0_meanBlame 12 = .ok (.istore_n 2, 1) := by decide +kernel
theorem dX0_meanBlame_13 : decode cX0_meanBlame 13 = .ok (.iload_n 2, 1) := by decide +kernel
theorem dX0_meanBlame_14 : decode cX0_meanBlame 14 = .ok (.aload_n 0, 1) := by decide +kernel
theorem dX0_meanBlame_15 : decode cX0_meanBlame 15 = .ok (.getfield 27, 3) := by decide +kernel
theorem dX0_meanBlame_18 : decode cX0_meanBlame 18 = .ok (.if_icmp .ge 21, 3) := by decide +kernel
theorem dX0_meanBlame_21 : decode cX0_meanBlame 21 = .ok (.iload_n 1, 1) := by decide +kernel
theorem dX0_meanBlame_22 : decode cX0_meanBlame 22 = .ok (.aload_n 0, 1) := by decide +kernel
theorem dX0_meanBlame_23 : decode cX0_meanBlame 23 = .ok (.getfield 30, 3) := by decide +kernel
theorem dX0_meanBlame_26 : decode cX0_meanBlame 26 = .ok (.iload_n 2, 1) := by decide +kernel
theorem dX0_meanBlame_27 : decode cX0_meanBlame 27 = .ok (.iaload, 1) := by decide +kernel
theorem dX0_meanBlame_28 : decode cX0_meanBlame 28 = .ok (.invokestatic 114, 3) := by decide +kernel
theorem dX0_meanBlame_31 : decode cX0_meanBlame 31 = .ok (.iadd, 1) := by decide +kernel
theorem dX0_meanBlame_32 : decode cX0_meanBlame 32 = .ok (.istore_n 1, 1) := by decide +kernel
theorem dX0_meanBlame_33 : decode cX0_meanBlame 33 = .ok (.iinc 2 1, 3) := by decide +kernel
theorem dX0_meanBlame_36 : decode cX0_meanBlame 36 = .ok (.goto (-23), 3) := by decide +kernel
theorem dX0_meanBlame_39 : decode cX0_meanBlame 39 = .ok (.iload_n 1, 1) := by decide +kernel
theorem dX0_meanBlame_40 : decode cX0_meanBlame 40 = .ok (.i2d, 1) := by decide +kernel
theorem dX0_meanBlame_41 : decode cX0_meanBlame 41 = .ok (.aload_n 0, 1) := by decide +kernel
theorem dX0_meanBlame_42 : decode cX0_meanBlame 42 = .ok (.getfield 27, 3) := by decide +kernel
theorem dX0_meanBlame_45 : decode cX0_meanBlame 45 = .ok (.i2d, 1) := by decide +kernel
theorem dX0_meanBlame_46 : decode cX0_meanBlame 46 = .ok (.ddiv, 1) := by decide +kernel
theorem dX0_meanBlame_47 : decode cX0_meanBlame 47 = .ok (.dreturn, 1) := by decide +kernel
set_option maxRecDepth 20000 in
theorem ggX0_digest_X0_things : GoodIn wsX0_digest wsX0_things := goodIn_r _ [6, 7, 166, 167, 168, 169, 170, 171, 172, 173, 174, 175] (by decide +kernel) (by decide +kernel)
set_option maxRecDepth 20000 in
theorem gX0_digest_X0_things : GoodIn wsX0_digest (wsV RX0 145 RX0 yX0_things wsX0_things) := goodIn_app (goodIn_of _ (by decide +kernel)) ggX0_digest_X0_things
set_option maxRecDepth 20000 in
theorem ggX0_digest_X0_mixed : GoodIn wsX0_digest wsX0_mixed := goodIn_r _ [10, 11] (by decide +kernel) (by decide +kernel)
set_option maxRecDepth 20000 in
theorem gX0_digest_X0_mixed : GoodIn wsX0_digest (va_wsS RX0 148 yX0_mixed wsX0_mixed) := goodIn_app (goodIn_of _ (by decide +kernel)) ggX0_digest_X0_mixed
set_option maxRecDepth 20000 in
theorem ggX0_digest_X0_nights : GoodIn wsX0_digest wsX0_nights := goodIn_r _ [15, 16, 166, 167, 168, 169, 170, 171, 172, 173, 174, 175] (by decide +kernel) (by decide +kernel)
set_option maxRecDepth 20000 in
theorem gX0_digest_X0_nights : GoodIn wsX0_digest (wsV RX0 152 RX0 yX0_nights wsX0_nights) := goodIn_app (goodIn_of _ (by decide +kernel)) ggX0_digest_X0_nights
set_option maxRecDepth 20000 in
theorem ggX0_digest_X0_smudges : GoodIn wsX0_digest wsX0_smudges := goodIn_r _ [20, 16, 21, 166, 167, 168, 169, 170, 171, 172, 173, 174, 175] (by decide +kernel) (by decide +kernel)
set_option maxRecDepth 20000 in
theorem gX0_digest_X0_smudges : GoodIn wsX0_digest (wsV RX0 155 RX0 yX0_smudges wsX0_smudges) := goodIn_app (goodIn_of _ (by decide +kernel)) ggX0_digest_X0_smudges
set_option maxRecDepth 20000 in
theorem ggX0_digest_X0_agree : GoodIn wsX0_digest wsX0_agree := goodIn_r _ [25, 26, 27, 28, 5, 29, 16, 30, 31, 32, 33, 34, 35, 36, 37, 7, 38, 39, 40, 41, 42, 166, 167, 168, 169, 170, 171, 172, 173, 174, 175] (by decide +kernel) (by decide +kernel)
set_option maxRecDepth 20000 in
theorem gX0_digest_X0_agree : GoodIn wsX0_digest (wsV RX0 119 RX0 yX0_agree wsX0_agree) := goodIn_app (goodIn_of _ (by decide +kernel)) ggX0_digest_X0_agree
set_option maxRecDepth 20000 in
theorem ggX0_digest_X0_oneIf : GoodIn wsX0_digest wsX0_oneIf := goodIn_r _ [45] (by decide +kernel) (by decide +kernel)
set_option maxRecDepth 20000 in
theorem gX0_digest_X0_oneIf : GoodIn wsX0_digest (va_wsS RX0 158 yX0_oneIf wsX0_oneIf) := goodIn_app (goodIn_of _ (by decide +kernel)) ggX0_digest_X0_oneIf
set_option maxRecDepth 20000 in
theorem ggX0_digest_X0_astronomers : GoodIn wsX0_digest wsX0_astronomers := goodIn_r _ [49, 50, 166, 167, 168, 169, 170, 171, 172, 173, 174, 175] (by decide +kernel) (by decide +kernel)
set_option maxRecDepth 20000 in
theorem gX0_digest_X0_astronomers : GoodIn wsX0_digest (wsV RX0 162 RX0 yX0_astronomers wsX0_astronomers) := goodIn_app (goodIn_of _ (by decide +kernel)) ggX0_digest_X0_astronomers
set_option maxRecDepth 20000 in
theorem ggX0_digest_X0_vote : GoodIn wsX0_digest wsX0_vote := goodIn_ca (goodIn_r _ [54, 7, 50, 55, 56, 57, 5, 58, 59, 60, 61, 62, 63, 64, 65, 66, 67, 68, 69, 70, 71, 166, 167, 168, 169, 170, 171, 172, 173, 174, 175] (by decide +kernel) (by decide +kernel)) (goodIn_sub (fun _ h => List.mem_cons_of_mem _ (List.mem_append_right _ h)) (by decide +kernel))
set_option maxRecDepth 20000 in
theorem gX0_digest_X0_vote : GoodIn wsX0_digest (wsV RX0 165 RX0 yX0_vote wsX0_vote) := goodIn_app (goodIn_of _ (by decide +kernel)) ggX0_digest_X0_vote
set_option maxRecDepth 20000 in
theorem ggX0_digest_X0_changesOfMind : GoodIn wsX0_digest wsX0_changesOfMind := goodIn_r _ [75, 76, 166, 167, 168, 169, 170, 171, 172, 173, 174, 175] (by decide +kernel) (by decide +kernel)
set_option maxRecDepth 20000 in
theorem gX0_digest_X0_changesOfMind : GoodIn wsX0_digest (wsV RX0 168 RX0 yX0_changesOfMind wsX0_changesOfMind) := goodIn_app (goodIn_of _ (by decide +kernel)) ggX0_digest_X0_changesOfMind
set_option maxRecDepth 20000 in
theorem ggX0_digest_X0_explanations : GoodIn wsX0_digest wsX0_explanations := goodIn_r _ [80, 34, 35, 36, 5, 37, 7, 38, 39, 40, 41, 42, 166, 167, 168, 169, 170, 171, 172, 173, 174, 175] (by decide +kernel) (by decide +kernel)
set_option maxRecDepth 20000 in
theorem gX0_digest_X0_explanations : GoodIn wsX0_digest (wsV RX0 129 RX0 yX0_explanations wsX0_explanations) := goodIn_app (goodIn_of _ (by decide +kernel)) ggX0_digest_X0_explanations
set_option maxRecDepth 20000 in
theorem ggX0_digest_X0_simplest : GoodIn wsX0_digest wsX0_simplest := goodIn_r _ [84, 34, 35, 36, 5, 37, 7, 38, 39, 40, 41, 42, 85, 86, 87, 88, 89, 90, 91, 166, 167, 168, 169, 170, 171, 172, 173, 174, 175] (by decide +kernel) (by decide +kernel)
set_option maxRecDepth 20000 in
theorem gX0_digest_X0_simplest : GoodIn wsX0_digest (wsV RX0 171 RX0 yX0_simplest wsX0_simplest) := goodIn_app (goodIn_of _ (by decide +kernel)) ggX0_digest_X0_simplest
set_option maxRecDepth 20000 in
theorem ggX0_digest_X0_surelyToBlame : GoodIn wsX0_digest wsX0_surelyToBlame := goodIn_r _ [95, 22, 23, 24, 5, 25, 26, 27, 28, 29, 16, 30, 31, 32, 33, 34, 35, 36, 37, 7, 38, 39, 40, 41, 42, 166, 167, 168, 169, 170, 171, 172, 173, 174, 175] (by decide +kernel) (by decide +kernel)
set_option maxRecDepth 20000 in
theorem gX0_digest_X0_surelyToBlame : GoodIn wsX0_digest (wsV RX0 174 RX0 yX0_surelyToBlame wsX0_surelyToBlame) := goodIn_app (goodIn_of _ (by decide +kernel)) ggX0_digest_X0_surelyToBlame
set_option maxRecDepth 20000 in
theorem ggX0_digest_X0_mixedWithThings : GoodIn wsX0_digest wsX0_mixedWithThings := goodIn_ca (goodIn_r _ [99, 7, 100, 101, 102, 5, 103, 16, 104, 60, 61, 62, 63, 64, 65, 66, 67, 68, 69, 70, 71, 8, 9, 10, 11, 105, 106, 107, 108, 21, 109, 110, 111, 112, 113, 114, 115, 116, 43, 44, 45, 117, 118, 119, 120, 121, 122, 123, 124, 125, 126, 127, 128, 34, 35, 36, 37, 38, 39, 40, 41, 42, 55, 56, 57, 58, 50, 59, 166, 167, 168, 169, 170, 171, 172, 173, 174, 175] (by decide +kernel) (by decide +kernel)) (goodIn_sub (fun _ h => List.mem_cons_of_mem _ (List.mem_append_right _ h)) (by decide +kernel))
set_option maxRecDepth 20000 in
theorem gX0_digest_X0_mixedWithThings : GoodIn wsX0_digest (wsV RX0 177 RX0 yX0_mixedWithThings wsX0_mixedWithThings) := goodIn_app (goodIn_of _ (by decide +kernel)) ggX0_digest_X0_mixedWithThings
set_option maxRecDepth 20000 in
theorem ggX0_digest_X0_mixedWithNights : GoodIn wsX0_digest wsX0_mixedWithNights := goodIn_ca (goodIn_r _ [132, 16, 133, 134, 135, 5, 136, 104, 137, 138, 139, 140, 64, 65, 8, 9, 10, 11, 141, 142, 143, 144, 21, 43, 44, 45, 166, 167, 168, 169, 170, 171, 172, 173, 174, 175] (by decide +kernel) (by decide +kernel)) (goodIn_sub (fun _ h => List.mem_cons_of_mem _ (List.mem_append_right _ h)) (by decide +kernel))
set_option maxRecDepth 20000 in
theorem gX0_digest_X0_mixedWithNights : GoodIn wsX0_digest (wsV RX0 181 RX0 yX0_mixedWithNights wsX0_mixedWithNights) := goodIn_app (goodIn_of _ (by decide +kernel)) ggX0_digest_X0_mixedWithNights
set_option maxRecDepth 20000 in
theorem ggX0_digest_X0_mixedWithAstronomers : GoodIn wsX0_digest wsX0_mixedWithAstronomers := goodIn_ca (goodIn_r _ [148, 50, 149, 150, 151, 5, 152, 59, 153, 154, 155, 156, 64, 65, 8, 9, 10, 11, 157, 158, 159, 160, 161, 162, 163, 164, 165, 38, 39, 40, 41, 42, 166, 167, 168, 169, 170, 171, 172, 173, 174, 175] (by decide +kernel) (by decide +kernel)) (goodIn_sub (fun _ h => List.mem_cons_of_mem _ (List.mem_append_right _ h)) (by decide +kernel))
set_option maxRecDepth 20000 in
theorem gX0_digest_X0_mixedWithAstronomers : GoodIn wsX0_digest (wsV RX0 184 RX0 yX0_mixedWithAstronomers wsX0_mixedWithAstronomers) := goodIn_app (goodIn_of _ (by decide +kernel)) ggX0_digest_X0_mixedWithAstronomers
theorem dX0_digest_0 : decode cX0_digest 0 = .ok (.ldc2_w 143, 3) := by decide +kernel
theorem dX0_digest_3 : decode cX0_digest 3 = .ok (.lstore_n 1, 1) := by decide +kernel
theorem dX0_digest_4 : decode cX0_digest 4 = .ok (.lload_n 1, 1) := by decide +kernel
theorem dX0_digest_5 : decode cX0_digest 5 = .ok (.aload_n 0, 1) := by decide +kernel
theorem dX0_digest_6 : decode cX0_digest 6 = .ok (.invokevirtual 145, 3) := by decide +kernel
theorem dX0_digest_9 : decode cX0_digest 9 = .ok (.i2l, 1) := by decide +kernel
theorem dX0_digest_10 : decode cX0_digest 10 = .ok (.invokestatic 148, 3) := by decide +kernel
theorem dX0_digest_13 : decode cX0_digest 13 = .ok (.lstore_n 1, 1) := by decide +kernel
theorem dX0_digest_14 : decode cX0_digest 14 = .ok (.lload_n 1, 1) := by decide +kernel
theorem dX0_digest_15 : decode cX0_digest 15 = .ok (.aload_n 0, 1) := by decide +kernel
theorem dX0_digest_16 : decode cX0_digest 16 = .ok (.invokevirtual 152, 3) := by decide +kernel
theorem dX0_digest_19 : decode cX0_digest 19 = .ok (.i2l, 1) := by decide +kernel
theorem dX0_digest_20 : decode cX0_digest 20 = .ok (.invokestatic 148, 3) := by decide +kernel
theorem dX0_digest_23 : decode cX0_digest 23 = .ok (.lstore_n 1, 1) := by decide +kernel
theorem dX0_digest_24 : decode cX0_digest 24 = .ok (.lload_n 1, 1) := by decide +kernel
theorem dX0_digest_25 : decode cX0_digest 25 = .ok (.aload_n 0, 1) := by decide +kernel
theorem dX0_digest_26 : decode cX0_digest 26 = .ok (.invokevirtual 155, 3) := by decide +kernel
theorem dX0_digest_29 : decode cX0_digest 29 = .ok (.i2l, 1) := by decide +kernel
theorem dX0_digest_30 : decode cX0_digest 30 = .ok (.invokestatic 148, 3) := by decide +kernel
theorem dX0_digest_33 : decode cX0_digest 33 = .ok (.lstore_n 1, 1) := by decide +kernel
theorem dX0_digest_34 : decode cX0_digest 34 = .ok (.lload_n 1, 1) := by decide +kernel
theorem dX0_digest_35 : decode cX0_digest 35 = .ok (.aload_n 0, 1) := by decide +kernel
theorem dX0_digest_36 : decode cX0_digest 36 = .ok (.invokevirtual 119, 3) := by decide +kernel
theorem dX0_digest_39 : decode cX0_digest 39 = .ok (.invokestatic 158, 3) := by decide +kernel
theorem dX0_digest_42 : decode cX0_digest 42 = .ok (.invokestatic 148, 3) := by decide +kernel
theorem dX0_digest_45 : decode cX0_digest 45 = .ok (.lstore_n 1, 1) := by decide +kernel
theorem dX0_digest_46 : decode cX0_digest 46 = .ok (.lload_n 1, 1) := by decide +kernel
theorem dX0_digest_47 : decode cX0_digest 47 = .ok (.aload_n 0, 1) := by decide +kernel
theorem dX0_digest_48 : decode cX0_digest 48 = .ok (.invokevirtual 162, 3) := by decide +kernel
theorem dX0_digest_51 : decode cX0_digest 51 = .ok (.i2l, 1) := by decide +kernel
theorem dX0_digest_52 : decode cX0_digest 52 = .ok (.invokestatic 148, 3) := by decide +kernel
theorem dX0_digest_55 : decode cX0_digest 55 = .ok (.lstore_n 1, 1) := by decide +kernel
theorem dX0_digest_56 : decode cX0_digest 56 = .ok (.lload_n 1, 1) := by decide +kernel
theorem dX0_digest_57 : decode cX0_digest 57 = .ok (.aload_n 0, 1) := by decide +kernel
theorem dX0_digest_58 : decode cX0_digest 58 = .ok (.invokevirtual 165, 3) := by decide +kernel
theorem dX0_digest_61 : decode cX0_digest 61 = .ok (.i2l, 1) := by decide +kernel
theorem dX0_digest_62 : decode cX0_digest 62 = .ok (.invokestatic 148, 3) := by decide +kernel
theorem dX0_digest_65 : decode cX0_digest 65 = .ok (.lstore_n 1, 1) := by decide +kernel
theorem dX0_digest_66 : decode cX0_digest 66 = .ok (.lload_n 1, 1) := by decide +kernel
theorem dX0_digest_67 : decode cX0_digest 67 = .ok (.aload_n 0, 1) := by decide +kernel
theorem dX0_digest_68 : decode cX0_digest 68 = .ok (.invokevirtual 168, 3) := by decide +kernel
theorem dX0_digest_71 : decode cX0_digest 71 = .ok (.i2l, 1) := by decide +kernel
theorem dX0_digest_72 : decode cX0_digest 72 = .ok (.invokestatic 148, 3) := by decide +kernel
theorem dX0_digest_75 : decode cX0_digest 75 = .ok (.lstore_n 1, 1) := by decide +kernel
theorem dX0_digest_76 : decode cX0_digest 76 = .ok (.lload_n 1, 1) := by decide +kernel
theorem dX0_digest_77 : decode cX0_digest 77 = .ok (.aload_n 0, 1) := by decide +kernel
theorem dX0_digest_78 : decode cX0_digest 78 = .ok (.invokevirtual 129, 3) := by decide +kernel
theorem dX0_digest_81 : decode cX0_digest 81 = .ok (.i2l, 1) := by decide +kernel
theorem dX0_digest_82 : decode cX0_digest 82 = .ok (.invokestatic 148, 3) := by decide +kernel
theorem dX0_digest_85 : decode cX0_digest 85 = .ok (.lstore_n 1, 1) := by decide +kernel
theorem dX0_digest_86 : decode cX0_digest 86 = .ok (.lload_n 1, 1) := by decide +kernel
theorem dX0_digest_87 : decode cX0_digest 87 = .ok (.aload_n 0, 1) := by decide +kernel
theorem dX0_digest_88 : decode cX0_digest 88 = .ok (.invokevirtual 171, 3) := by decide +kernel
theorem dX0_digest_91 : decode cX0_digest 91 = .ok (.i2l, 1) := by decide +kernel
theorem dX0_digest_92 : decode cX0_digest 92 = .ok (.invokestatic 148, 3) := by decide +kernel
theorem dX0_digest_95 : decode cX0_digest 95 = .ok (.lstore_n 1, 1) := by decide +kernel
theorem dX0_digest_96 : decode cX0_digest 96 = .ok (.lload_n 1, 1) := by decide +kernel
theorem dX0_digest_97 : decode cX0_digest 97 = .ok (.aload_n 0, 1) := by decide +kernel
theorem dX0_digest_98 : decode cX0_digest 98 = .ok (.invokevirtual 174, 3) := by decide +kernel
theorem dX0_digest_101 : decode cX0_digest 101 = .ok (.i2l, 1) := by decide +kernel
theorem dX0_digest_102 : decode cX0_digest 102 = .ok (.invokestatic 148, 3) := by decide +kernel
theorem dX0_digest_105 : decode cX0_digest 105 = .ok (.lstore_n 1, 1) := by decide +kernel
theorem dX0_digest_106 : decode cX0_digest 106 = .ok (.aload_n 0, 1) := by decide +kernel
theorem dX0_digest_107 : decode cX0_digest 107 = .ok (.lload_n 1, 1) := by decide +kernel
theorem dX0_digest_108 : decode cX0_digest 108 = .ok (.invokevirtual 177, 3) := by decide +kernel
theorem dX0_digest_111 : decode cX0_digest 111 = .ok (.lstore_n 1, 1) := by decide +kernel
theorem dX0_digest_112 : decode cX0_digest 112 = .ok (.aload_n 0, 1) := by decide +kernel
theorem dX0_digest_113 : decode cX0_digest 113 = .ok (.lload_n 1, 1) := by decide +kernel
theorem dX0_digest_114 : decode cX0_digest 114 = .ok (.invokevirtual 181, 3) := by decide +kernel
theorem dX0_digest_117 : decode cX0_digest 117 = .ok (.lstore_n 1, 1) := by decide +kernel
theorem dX0_digest_118 : decode cX0_digest 118 = .ok (.aload_n 0, 1) := by decide +kernel
theorem dX0_digest_119 : decode cX0_digest 119 = .ok (.lload_n 1, 1) := by decide +kernel
theorem dX0_digest_120 : decode cX0_digest 120 = .ok (.invokevirtual 184, 3) := by decide +kernel
theorem dX0_digest_123 : decode cX0_digest 123 = .ok (.lreturn, 1) := by decide +kernel
theorem dX0_requireThing_0 : decode cX0_requireThing 0 = .ok (.iload_n 1, 1) := by decide +kernel
theorem dX0_requireThing_1 : decode cX0_requireThing 1 = .ok (.ifCond .lt 11, 3) := by decide +kernel
theorem dX0_requireThing_4 : decode cX0_requireThing 4 = .ok (.iload_n 1, 1) := by decide +kernel
theorem dX0_requireThing_5 : decode cX0_requireThing 5 = .ok (.aload_n 0, 1) := by decide +kernel
theorem dX0_requireThing_6 : decode cX0_requireThing 6 = .ok (.getfield 9, 3) := by decide +kernel
theorem dX0_requireThing_9 : decode cX0_requireThing 9 = .ok (.if_icmp .lt 13, 3) := by decide +kernel
theorem dX0_requireThing_12 : decode cX0_requireThing 12 = .ok (.new 187, 3) := by decide +kernel
theorem dX0_requireThing_15 : decode cX0_requireThing 15 = .ok (.dup, 1) := by decide +kernel
theorem dX0_requireThing_16 : decode cX0_requireThing 16 = .ok (.ldc 189, 2) := by decide +kernel
theorem dX0_requireThing_18 : decode cX0_requireThing 18 = .ok (.invokespecial 191, 3) := by decide +kernel
theorem dX0_requireThing_21 : decode cX0_requireThing 21 = .ok (.athrow, 1) := by decide +kernel
theorem dX0_requireThing_22 : decode cX0_requireThing 22 = .ok (.return_, 1) := by decide +kernel
theorem dX0_requireNight_0 : decode cX0_requireNight 0 = .ok (.iload_n 1, 1) := by decide +kernel
theorem dX0_requireNight_1 : decode cX0_requireNight 1 = .ok (.ifCond .lt 11, 3) := by decide +kernel
theorem dX0_requireNight_4 : decode cX0_requireNight 4 = .ok (.iload_n 1, 1) := by decide +kernel
theorem dX0_requireNight_5 : decode cX0_requireNight 5 = .ok (.aload_n 0, 1) := by decide +kernel
theorem dX0_requireNight_6 : decode cX0_requireNight 6 = .ok (.getfield 13, 3) := by decide +kernel
theorem dX0_requireNight_9 : decode cX0_requireNight 9 = .ok (.if_icmp .lt 13, 3) := by decide +kernel
theorem dX0_requireNight_12 : decode cX0_requireNight 12 = .ok (.new 187, 3) := by decide +kernel
theorem dX0_requireNight_15 : decode cX0_requireNight 15 = .ok (.dup, 1) := by decide +kernel
theorem dX0_requireNight_16 : decode cX0_requireNight 16 = .ok (.ldc 192, 2) := by decide +kernel
theorem dX0_requireNight_18 : decode cX0_requireNight 18 = .ok (.invokespecial 191, 3) := by decide +kernel
theorem dX0_requireNight_21 : decode cX0_requireNight 21 = .ok (.athrow, 1) := by decide +kernel
theorem dX0_requireNight_22 : decode cX0_requireNight 22 = .ok (.return_, 1) := by decide +kernel
theorem dX0_requireAstronomer_0 : decode cX0_requireAstronomer 0 = .ok (.iload_n 1, 1) := by decide +kernel
theorem dX0_requireAstronomer_1 : decode cX0_requireAstronomer 1 = .ok (.ifCond .lt 11, 3) := by decide +kernel
theorem dX0_requireAstronomer_4 : decode cX0_requireAstronomer 4 = .ok (.iload_n 1, 1) := by decide +kernel
theorem dX0_requireAstronomer_5 : decode cX0_requireAstronomer 5 = .ok (.aload_n 0, 1) := by decide +kernel
theorem dX0_requireAstronomer_6 : decode cX0_requireAstronomer 6 = .ok (.getfield 27, 3) := by decide +kernel
theorem dX0_requireAstronomer_9 : decode cX0_requireAstronomer 9 = .ok (.if_icmp .lt 13, 3) := by decide +kernel
theorem dX0_requireAstronomer_12 : decode cX0_requireAstronomer 12 = .ok (.new 187, 3) := by decide +kernel
theorem dX0_requireAstronomer_15 : decode cX0_requireAstronomer 15 = .ok (.dup, 1) := by decide +kernel
theorem dX0_requireAstronomer_16 : decode cX0_requireAstronomer 16 = .ok (.ldc 194, 2) := by decide +kernel
theorem dX0_requireAstronomer_18 : decode cX0_requireAstronomer 18 = .ok (.invokespecial 191, 3) := by decide +kernel
theorem dX0_requireAstronomer_21 : decode cX0_requireAstronomer 21 = .ok (.athrow, 1) := by decide +kernel
theorem dX0_requireAstronomer_22 : decode cX0_requireAstronomer 22 = .ok (.return_, 1) := by decide +kernel
set_option maxRecDepth 20000 in
theorem ggX0_requireSet_X0_allThings : GoodIn wsX0_requireSet wsX0_allThings := goodIn_r _ [7, 8, 9, 10, 11, 12, 13, 14, 15, 16, 17, 18] (by decide +kernel) (by decide +kernel)
set_option maxRecDepth 20000 in
theorem gX0_requireSet_X0_allThings : GoodIn wsX0_requireSet (wsV RX0 111 RX0 yX0_allThings wsX0_allThings) := goodIn_app (goodIn_of _ (by decide +kernel)) ggX0_requireSet_X0_allThings
theorem dX0_requireSet_0 : decode cX0_requireSet 0 = .ok (.iload_n 1, 1) := by decide +kernel
theorem dX0_requireSet_1 : decode cX0_requireSet 1 = .ok (.ifCond .lt 11, 3) := by decide +kernel
theorem dX0_requireSet_4 : decode cX0_requireSet 4 = .ok (.iload_n 1, 1) := by decide +kernel
theorem dX0_requireSet_5 : decode cX0_requireSet 5 = .ok (.aload_n 0, 1) := by decide +kernel
theorem dX0_requireSet_6 : decode cX0_requireSet 6 = .ok (.invokevirtual 111, 3) := by decide +kernel
theorem dX0_requireSet_9 : decode cX0_requireSet 9 = .ok (.if_icmp .le 13, 3) := by decide +kernel
theorem dX0_requireSet_12 : decode cX0_requireSet 12 = .ok (.new 49, 3) := by decide +kernel
theorem dX0_requireSet_15 : decode cX0_requireSet 15 = .ok (.dup, 1) := by decide +kernel
theorem dX0_requireSet_16 : decode cX0_requireSet 16 = .ok (.ldc 196, 2) := by decide +kernel
theorem dX0_requireSet_18 : decode cX0_requireSet 18 = .ok (.invokespecial 53, 3) := by decide +kernel
theorem dX0_requireSet_21 : decode cX0_requireSet 21 = .ok (.athrow, 1) := by decide +kernel
theorem dX0_requireSet_22 : decode cX0_requireSet 22 = .ok (.return_, 1) := by decide +kernel
set_option maxRecDepth 20000 in
theorem ggX0_requireUsableSet_X0_allThings : GoodIn wsX0_requireUsableSet wsX0_allThings := goodIn_r _ [7, 8, 9, 10, 11, 12, 13, 14, 15, 16, 17, 18] (by decide +kernel) (by decide +kernel)
set_option maxRecDepth 20000 in
theorem gX0_requireUsableSet_X0_allThings : GoodIn wsX0_requireUsableSet (wsV RX0 111 RX0 yX0_allThings wsX0_allThings) := goodIn_app (goodIn_of _ (by decide +kernel)) ggX0_requireUsableSet_X0_allThings
theorem dX0_requireUsableSet_0 : decode cX0_requireUsableSet 0 = .ok (.iload_n 1, 1) := by decide +kernel
theorem dX0_requireUsableSet_1 : decode cX0_requireUsableSet 1 = .ok (.iconst 1, 1) := by decide +kernel
theorem dX0_requireUsableSet_2 : decode cX0_requireUsableSet 2 = .ok (.if_icmp .lt 11, 3) := by decide +kernel
theorem dX0_requireUsableSet_5 : decode cX0_requireUsableSet 5 = .ok (.iload_n 1, 1) := by decide +kernel
theorem dX0_requireUsableSet_6 : decode cX0_requireUsableSet 6 = .ok (.aload_n 0, 1) := by decide +kernel
theorem dX0_requireUsableSet_7 : decode cX0_requireUsableSet 7 = .ok (.invokevirtual 111, 3) := by decide +kernel
theorem dX0_requireUsableSet_10 : decode cX0_requireUsableSet 10 = .ok (.if_icmp .le 13, 3) := by decide +kernel
theorem dX0_requireUsableSet_13 : decode cX0_requireUsableSet 13 = .ok (.new 49, 3) := by decide +kernel
theorem dX0_requireUsableSet_16 : decode cX0_requireUsableSet 16 = .ok (.dup, 1) := by decide +kernel
theorem dX0_requireUsableSet_17 : decode cX0_requireUsableSet 17 = .ok (.ldc 198, 2) := by decide +kernel
theorem dX0_requireUsableSet_19 : decode cX0_requireUsableSet 19 = .ok (.invokespecial 53, 3) := by decide +kernel
theorem dX0_requireUsableSet_22 : decode cX0_requireUsableSet 22 = .ok (.athrow, 1) := by decide +kernel
theorem dX0_requireUsableSet_23 : decode cX0_requireUsableSet 23 = .ok (.return_, 1) := by decide +kernel
theorem dX0_requireRoomForNight_0 : decode cX0_requireRoomForNight 0 = .ok (.aload_n 0, 1) := by decide +kernel
theorem dX0_requireRoomForNight_1 : decode cX0_requireRoomForNight 1 = .ok (.getfield 13, 3) := by decide +kernel
theorem dX0_requireRoomForNight_4 : decode cX0_requireRoomForNight 4 = .ok (.bipush 40, 2) := by decide +kernel
theorem dX0_requireRoomForNight_6 : decode cX0_requireRoomForNight 6 = .ok (.if_icmp .lt 13, 3) := by decide +kernel
theorem dX0_requireRoomForNight_9 : decode cX0_requireRoomForNight 9 = .ok (.new 42, 3) := by decide +kernel
theorem dX0_requireRoomForNight_12 : decode cX0_requireRoomForNight 12 = .ok (.dup, 1) := by decide +kernel
theorem dX0_requireRoomForNight_13 : decode cX0_requireRoomForNight 13 = .ok (.ldc 200, 2) := by decide +kernel
theorem dX0_requireRoomForNight_15 : decode cX0_requireRoomForNight 15 = .ok (.invokespecial 46, 3) := by decide +kernel
theorem dX0_requireRoomForNight_18 : decode cX0_requireRoomForNight 18 = .ok (.athrow, 1) := by decide +kernel
theorem dX0_requireRoomForNight_19 : decode cX0_requireRoomForNight 19 = .ok (.return_, 1) := by decide +kernel
theorem dX0_allThings_0 : decode cX0_allThings 0 = .ok (.iconst 1, 1) := by decide +kernel
theorem dX0_allThings_1 : decode cX0_allThings 1 = .ok (.aload_n 0, 1) := by decide +kernel
theorem dX0_allThings_2 : decode cX0_allThings 2 = .ok (.getfield 9, 3) := by decide +kernel
theorem dX0_allThings_5 : decode cX0_allThings 5 = .ok (.ishl, 1) := by decide +kernel
theorem dX0_allThings_6 : decode cX0_allThings 6 = .ok (.iconst 1, 1) := by decide +kernel
theorem dX0_allThings_7 : decode cX0_allThings 7 = .ok (.isub, 1) := by decide +kernel
theorem dX0_allThings_8 : decode cX0_allThings 8 = .ok (.ireturn, 1) := by decide +kernel
theorem dX0_setOf_0 : decode cX0_setOf 0 = .ok (.iconst 1, 1) := by decide +kernel
theorem dX0_setOf_1 : decode cX0_setOf 1 = .ok (.iload_n 0, 1) := by decide +kernel
theorem dX0_setOf_2 : decode cX0_setOf 2 = .ok (.ishl, 1) := by decide +kernel
theorem dX0_setOf_3 : decode cX0_setOf 3 = .ok (.ireturn, 1) := by decide +kernel
set_option maxRecDepth 20000 in
theorem ggX0_holds_X0_setOf : GoodIn wsX0_holds wsX0_setOf := goodIn_r _ [4] (by decide +kernel) (by decide +kernel)
set_option maxRecDepth 20000 in
theorem gX0_holds_X0_setOf : GoodIn wsX0_holds (va_wsS RX0 95 yX0_setOf wsX0_setOf) := goodIn_app (goodIn_of _ (by decide +kernel)) ggX0_holds_X0_setOf
theorem dX0_holds_0 : decode cX0_holds 0 = .ok (.iload_n 0, 1) := by decide +kernel
theorem dX0_holds_1 : decode cX0_holds 1 = .ok (.iload_n 1, 1) := by decide +kernel
theorem dX0_holds_2 : decode cX0_holds 2 = .ok (.invokestatic 95, 3) := by decide +kernel
theorem dX0_holds_5 : decode cX0_holds 5 = .ok (.iand, 1) := by decide +kernel
theorem dX0_holds_6 : decode cX0_holds 6 = .ok (.ifCond .eq 7, 3) := by decide +kernel
theorem dX0_holds_9 : decode cX0_holds 9 = .ok (.iconst 1, 1) := by decide +kernel
theorem dX0_holds_10 : decode cX0_holds 10 = .ok (.goto 4, 3) := by decide +kernel
theorem dX0_holds_13 : decode cX0_holds 13 = .ok (.iconst 0, 1) := by decide +kernel
theorem dX0_holds_14 : decode cX0_holds 14 = .ok (.ireturn, 1) := by decide +kernel
theorem dX0_explains_0 : decode cX0_explains 0 = .ok (.iload_n 0, 1) := by decide +kernel
theorem dX0_explains_1 : decode cX0_explains 1 = .ok (.iload_n 1, 1) := by decide +kernel
theorem dX0_explains_2 : decode cX0_explains 2 = .ok (.iand, 1) := by decide +kernel
theorem dX0_explains_3 : decode cX0_explains 3 = .ok (.ifCond .eq 7, 3) := by decide +kernel
theorem dX0_explains_6 : decode cX0_explains 6 = .ok (.iconst 1, 1) := by decide +kernel
theorem dX0_explains_7 : decode cX0_explains 7 = .ok (.goto 4, 3) := by decide +kernel
theorem dX0_explains_10 : decode cX0_explains 10 = .ok (.iconst 0, 1) := by decide +kernel
theorem dX0_explains_11 : decode cX0_explains 11 = .ok (.iload_n 2, 1) := by decide +kernel
theorem dX0_explains_12 : decode cX0_explains 12 = .ok (.if_icmp .ne 7, 3) := by decide +kernel
theorem dX0_explains_15 : decode cX0_explains 15 = .ok (.iconst 1, 1) := by decide +kernel
theorem dX0_explains_16 : decode cX0_explains 16 = .ok (.goto 4, 3) := by decide +kernel
theorem dX0_explains_19 : decode cX0_explains 19 = .ok (.iconst 0, 1) := by decide +kernel
theorem dX0_explains_20 : decode cX0_explains 20 = .ok (.ireturn, 1) := by decide +kernel
theorem dX0_clearedThings_0 : decode cX0_clearedThings 0 = .ok (.iconst 0, 1) := by decide +kernel
theorem dX0_clearedThings_1 : decode cX0_clearedThings 1 = .ok (.istore_n 1, 1) := by decide +kernel
theorem dX0_clearedThings_2 : decode cX0_clearedThings 2 = .ok (.iconst 0, 1) := by decide +kernel
theorem dX0_clearedThings_3 : decode cX0_clearedThings 3 = .ok (.istore_n 2, 1) := by decide +kernel
theorem dX0_clearedThings_4 : decode cX0_clearedThings 4 = .ok (.iload_n 2, 1) := by decide +kernel
theorem dX0_clearedThings_5 : decode cX0_clearedThings 5 = .ok (.aload_n 0, 1) := by decide +kernel
theorem dX0_clearedThings_6 : decode cX0_clearedThings 6 = .ok (.getfield 13, 3) := by decide +kernel
theorem dX0_clearedThings_9 : decode cX0_clearedThings 9 = .ok (.if_icmp .ge 27, 3) := by decide +kernel
theorem dX0_clearedThings_12 : decode cX0_clearedThings 12 = .ok (.aload_n 0, 1) := by decide +kernel
theorem dX0_clearedThings_13 : decode cX0_clearedThings 13 = .ok (.getfield 20, 3) := by decide +kernel
theorem dX0_clearedThings_16 : decode cX0_clearedThings 16 = .ok (.iload_n 2, 1) := by decide +kernel
theorem dX0_clearedThings_17 : decode cX0_clearedThings 17 = .ok (.baload, 1) := by decide +kernel
theorem dX0_clearedThings_18 : decode cX0_clearedThings 18 = .ok (.ifCond .ne 12, 3) := by decide +kernel
theorem dX0_clearedThings_21 : decode cX0_clearedThings 21 = .ok (.iload_n 1, 1) := by decide +kernel
theorem dX0_clearedThings_22 : decode cX0_clearedThings 22 = .ok (.aload_n 0, 1) := by decide +kernel
theorem dX0_clearedThings_23 : decode cX0_clearedThings 23 = .ok (.getfield 16, 3) := by decide +kernel
theorem dX0_clearedThings_26 : decode cX0_clearedThings 26 = .ok (.iload_n 2, 1) := by decide +kernel
theorem dX0_clearedThings_27 : decode cX0_clearedThings 27 = .ok (.iaload, 1) := by decide +kernel
theorem dX0_clearedThings_28 : decode cX0_clearedThings 28 = .ok (.ior, 1) := by decide +kernel
theorem dX0_clearedThings_29 : decode cX0_clearedThings 29 = .ok (.istore_n 1, 1) := by decide +kernel
theorem dX0_clearedThings_30 : decode cX0_clearedThings 30 = .ok (.iinc 2 1, 3) := by decide +kernel
theorem dX0_clearedThings_33 : decode cX0_clearedThings 33 = .ok (.goto (-29), 3) := by decide +kernel
theorem dX0_clearedThings_36 : decode cX0_clearedThings 36 = .ok (.iload_n 1, 1) := by decide +kernel
theorem dX0_clearedThings_37 : decode cX0_clearedThings 37 = .ok (.ireturn, 1) := by decide +kernel
set_option maxRecDepth 20000 in
theorem ggX0_countMisses_X0_explains : GoodIn wsX0_countMisses wsX0_explains := goodIn_r _ [5] (by decide +kernel) (by decide +kernel)
set_option maxRecDepth 20000 in
theorem gX0_countMisses_X0_explains : GoodIn wsX0_countMisses (va_wsS RX0 139 yX0_explains wsX0_explains) := goodIn_app (goodIn_of _ (by decide +kernel)) ggX0_countMisses_X0_explains
theorem dX0_countMisses_0 : decode cX0_countMisses 0 = .ok (.iconst 0, 1) := by decide +kernel
theorem dX0_countMisses_1 : decode cX0_countMisses 1 = .ok (.istore 4, 2) := by decide +kernel
theorem dX0_countMisses_3 : decode cX0_countMisses 3 = .ok (.iload 4, 2) := by decide +kernel
theorem dX0_countMisses_5 : decode cX0_countMisses 5 = .ok (.sipush 256, 3) := by decide +kernel
theorem dX0_countMisses_8 : decode cX0_countMisses 8 = .ok (.if_icmp .ge 30, 3) := by decide +kernel
theorem dX0_countMisses_11 : decode cX0_countMisses 11 = .ok (.iload 4, 2) := by decide +kernel
theorem dX0_countMisses_13 : decode cX0_countMisses 13 = .ok (.iload_n 1, 1) := by decide +kernel
theorem dX0_countMisses_14 : decode cX0_countMisses 14 = .ok (.iload_n 2, 1) := by decide +kernel
theorem dX0_countMisses_15 : decode cX0_countMisses 15 = .ok (.invokestatic 139, 3) := by decide +kernel
theorem dX0_countMisses_18 : decode cX0_countMisses 18 = .ok (.ifCond .ne 14, 3) := by decide +kernel
theorem dX0_countMisses_21 : decode cX0_countMisses 21 = .ok (.aload_n 0, 1) := by decide +kernel
theorem dX0_countMisses_22 : decode cX0_countMisses 22 = .ok (.getfield 24, 3) := by decide +kernel
theorem dX0_countMisses_25 : decode cX0_countMisses 25 = .ok (.iload 4, 2) := by decide +kernel
theorem dX0_countMisses_27 : decode cX0_countMisses 27 = .ok (.dup2, 1) := by decide +kernel
theorem dX0_countMisses_28 : decode cX0_countMisses 28 = .ok (.iaload, 1) := by decide +kernel
theorem dX0_countMisses_29 : decode cX0_countMisses 29 = .ok (.iload_n 3, 1) := by decide +kernel
theorem dX0_countMisses_30 : decode cX0_countMisses 30 = .ok (.iadd, 1) := by decide +kernel
theorem dX0_countMisses_31 : decode cX0_countMisses 31 = .ok (.iastore, 1) := by decide +kernel
theorem dX0_countMisses_32 : decode cX0_countMisses 32 = .ok (.iinc 4 1, 3) := by decide +kernel
theorem dX0_countMisses_35 : decode cX0_countMisses 35 = .ok (.goto (-32), 3) := by decide +kernel
theorem dX0_countMisses_38 : decode cX0_countMisses 38 = .ok (.return_, 1) := by decide +kernel
theorem dX0_missesOf_0 : decode cX0_missesOf 0 = .ok (.aload_n 0, 1) := by decide +kernel
theorem dX0_missesOf_1 : decode cX0_missesOf 1 = .ok (.getfield 24, 3) := by decide +kernel
theorem dX0_missesOf_4 : decode cX0_missesOf 4 = .ok (.iload_n 1, 1) := by decide +kernel
theorem dX0_missesOf_5 : decode cX0_missesOf 5 = .ok (.sipush 255, 3) := by decide +kernel
theorem dX0_missesOf_8 : decode cX0_missesOf 8 = .ok (.iand, 1) := by decide +kernel
theorem dX0_missesOf_9 : decode cX0_missesOf 9 = .ok (.iaload, 1) := by decide +kernel
theorem dX0_missesOf_10 : decode cX0_missesOf 10 = .ok (.ireturn, 1) := by decide +kernel
set_option maxRecDepth 20000 in
theorem ggX0_explanationsMeeting_X0_allThings : GoodIn wsX0_explanationsMeeting wsX0_allThings := goodIn_r _ [5, 6, 12, 13, 14, 15, 16, 17, 18, 19, 20, 21] (by decide +kernel) (by decide +kernel)
set_option maxRecDepth 20000 in
theorem gX0_explanationsMeeting_X0_allThings : GoodIn wsX0_explanationsMeeting (wsV RX0 111 RX0 yX0_allThings wsX0_allThings) := goodIn_app (goodIn_of _ (by decide +kernel)) ggX0_explanationsMeeting_X0_allThings
set_option maxRecDepth 20000 in
theorem ggX0_explanationsMeeting_X0_missesOf : GoodIn wsX0_explanationsMeeting wsX0_missesOf := goodIn_r _ [10, 11, 12, 13, 14, 15, 16, 17, 18, 19, 20, 21] (by decide +kernel) (by decide +kernel)
set_option maxRecDepth 20000 in
theorem gX0_explanationsMeeting_X0_missesOf : GoodIn wsX0_explanationsMeeting (wsV RX0 105 RX0 yX0_missesOf wsX0_missesOf) := goodIn_app (goodIn_of _ (by decide +kernel)) ggX0_explanationsMeeting_X0_missesOf
theorem dX0_explanationsMeeting_0 : decode cX0_explanationsMeeting 0 = .ok (.iconst 0, 1) := by decide +kernel
theorem dX0_explanationsMeeting_1 : decode cX0_explanationsMeeting 1 = .ok (.istore_n 2, 1) := by decide +kernel
theorem dX0_explanationsMeeting_2 : decode cX0_explanationsMeeting 2 = .ok (.iconst 0, 1) := by decide +kernel
theorem dX0_explanationsMeeting_3 : decode cX0_explanationsMeeting 3 = .ok (.istore_n 3, 1) := by decide +kernel
theorem dX0_explanationsMeeting_4 : decode cX0_explanationsMeeting 4 = .ok (.iload_n 3, 1) := by decide +kernel
theorem dX0_explanationsMeeting_5 : decode cX0_explanationsMeeting 5 = .ok (.aload_n 0, 1) := by decide +kernel
theorem dX0_explanationsMeeting_6 : decode cX0_explanationsMeeting 6 = .ok (.invokevirtual 111, 3) := by decide +kernel
theorem dX0_explanationsMeeting_9 : decode cX0_explanationsMeeting 9 = .ok (.if_icmp .gt 26, 3) := by decide +kernel
theorem dX0_explanationsMeeting_12 : decode cX0_explanationsMeeting 12 = .ok (.iload_n 3, 1) := by decide +kernel
theorem dX0_explanationsMeeting_13 : decode cX0_explanationsMeeting 13 = .ok (.iload_n 1, 1) := by decide +kernel
theorem dX0_explanationsMeeting_14 : decode cX0_explanationsMeeting 14 = .ok (.iand, 1) := by decide +kernel
theorem dX0_explanationsMeeting_15 : decode cX0_explanationsMeeting 15 = .ok (.ifCond .eq 14, 3) := by decide +kernel
theorem dX0_explanationsMeeting_18 : decode cX0_explanationsMeeting 18 = .ok (.aload_n 0, 1) := by decide +kernel
theorem dX0_explanationsMeeting_19 : decode cX0_explanationsMeeting 19 = .ok (.iload_n 3, 1) := by decide +kernel
theorem dX0_explanationsMeeting_20 : decode cX0_explanationsMeeting 20 = .ok (.invokevirtual 105, 3) := by decide +kernel
theorem dX0_explanationsMeeting_23 : decode cX0_explanationsMeeting 23 = .ok (.ifCond .ne 6, 3) := by decide +kernel
theorem dX0_explanationsMeeting_26 : decode cX0_explanationsMeeting 26 = .ok (.iinc 2 1, 3) := by decide +kernel
theorem dX0_explanationsMeeting_29 : decode cX0_explanationsMeeting 29 = .ok (.iinc 3 1, 3) := by decide +kernel
theorem dX0_explanationsMeeting_32 : decode cX0_explanationsMeeting 32 = .ok (.goto (-28), 3) := by decide +kernel
theorem dX0_explanationsMeeting_35 : decode cX0_explanationsMeeting 35 = .ok (.iload_n 2, 1) := by decide +kernel
theorem dX0_explanationsMeeting_36 : decode cX0_explanationsMeeting 36 = .ok (.ireturn, 1) := by decide +kernel
set_option maxRecDepth 20000 in
theorem ggX0_wouldAgreeWith_X0_allThings : GoodIn wsX0_wouldAgreeWith wsX0_allThings := goodIn_r _ [5, 6, 15, 16, 17, 18, 19, 20, 21, 22, 23, 24] (by decide +kernel) (by decide +kernel)
set_option maxRecDepth 20000 in
theorem gX0_wouldAgreeWith_X0_allThings : GoodIn wsX0_wouldAgreeWith (wsV RX0 111 RX0 yX0_allThings wsX0_allThings) := goodIn_app (goodIn_of _ (by decide +kernel)) ggX0_wouldAgreeWith_X0_allThings
set_option maxRecDepth 20000 in
theorem ggX0_wouldAgreeWith_X0_missesOf : GoodIn wsX0_wouldAgreeWith wsX0_missesOf := goodIn_r _ [10, 11, 15, 16, 17, 18, 19, 20, 21, 22, 23, 24] (by decide +kernel) (by decide +kernel)
set_option maxRecDepth 20000 in
theorem gX0_wouldAgreeWith_X0_missesOf : GoodIn wsX0_wouldAgreeWith (wsV RX0 105 RX0 yX0_missesOf wsX0_missesOf) := goodIn_app (goodIn_of _ (by decide +kernel)) ggX0_wouldAgreeWith_X0_missesOf
set_option maxRecDepth 20000 in
theorem ggX0_wouldAgreeWith_X0_explains : GoodIn wsX0_wouldAgreeWith wsX0_explains := goodIn_r _ [14] (by decide +kernel) (by decide +kernel)
set_option maxRecDepth 20000 in
theorem gX0_wouldAgreeWith_X0_explains : GoodIn wsX0_wouldAgreeWith (va_wsS RX0 139 yX0_explains wsX0_explains) := goodIn_app (goodIn_of _ (by decide +kernel)) ggX0_wouldAgreeWith_X0_explains
theorem dX0_wouldAgreeWith_0 : decode cX0_wouldAgreeWith 0 = .ok (.iconst 0, 1) := by decide +kernel
theorem dX0_wouldAgreeWith_1 : decode cX0_wouldAgreeWith 1 = .ok (.istore_n 3, 1) := by decide +kernel
theorem dX0_wouldAgreeWith_2 : decode cX0_wouldAgreeWith 2 = .ok (.iload_n 3, 1) := by decide +kernel
theorem dX0_wouldAgreeWith_3 : decode cX0_wouldAgreeWith 3 = .ok (.aload_n 0, 1) := by decide +kernel
theorem dX0_wouldAgreeWith_4 : decode cX0_wouldAgreeWith 4 = .ok (.invokevirtual 111, 3) := by decide +kernel
theorem dX0_wouldAgreeWith_7 : decode cX0_wouldAgreeWith 7 = .ok (.if_icmp .gt 28, 3) := by decide +kernel
theorem dX0_wouldAgreeWith_10 : decode cX0_wouldAgreeWith 10 = .ok (.aload_n 0, 1) := by decide +kernel
theorem dX0_wouldAgreeWith_11 : decode cX0_wouldAgreeWith 11 = .ok (.iload_n 3, 1) := by decide +kernel
theorem dX0_wouldAgreeWith_12 : decode cX0_wouldAgreeWith 12 = .ok (.invokevirtual 105, 3) := by decide +kernel
theorem dX0_wouldAgreeWith_15 : decode cX0_wouldAgreeWith 15 = .ok (.ifCond .ne 14, 3) := by decide +kernel
theorem dX0_wouldAgreeWith_18 : decode cX0_wouldAgreeWith 18 = .ok (.iload_n 3, 1) := by decide +kernel
theorem dX0_wouldAgreeWith_19 : decode cX0_wouldAgreeWith 19 = .ok (.iload_n 1, 1) := by decide +kernel
theorem dX0_wouldAgreeWith_20 : decode cX0_wouldAgreeWith 20 = .ok (.iload_n 2, 1) := by decide +kernel
theorem dX0_wouldAgreeWith_21 : decode cX0_wouldAgreeWith 21 = .ok (.invokestatic 139, 3) := by decide +kernel
theorem dX0_wouldAgreeWith_24 : decode cX0_wouldAgreeWith 24 = .ok (.ifCond .eq 5, 3) := by decide +kernel
theorem dX0_wouldAgreeWith_27 : decode cX0_wouldAgreeWith 27 = .ok (.iconst 1, 1) := by decide +kernel
theorem dX0_wouldAgreeWith_28 : decode cX0_wouldAgreeWith 28 = .ok (.ireturn, 1) := by decide +kernel
theorem dX0_wouldAgreeWith_29 : decode cX0_wouldAgreeWith 29 = .ok (.iinc 3 1, 3) := by decide +kernel
theorem dX0_wouldAgreeWith_32 : decode cX0_wouldAgreeWith 32 = .ok (.goto (-30), 3) := by decide +kernel
theorem dX0_wouldAgreeWith_35 : decode cX0_wouldAgreeWith 35 = .ok (.iconst 0, 1) := by decide +kernel
theorem dX0_wouldAgreeWith_36 : decode cX0_wouldAgreeWith 36 = .ok (.ireturn, 1) := by decide +kernel
theorem dX0_letBlame_0 : decode cX0_letBlame 0 = .ok (.aload_n 0, 1) := by decide +kernel
theorem dX0_letBlame_1 : decode cX0_letBlame 1 = .ok (.getfield 30, 3) := by decide +kernel
theorem dX0_letBlame_4 : decode cX0_letBlame 4 = .ok (.iload_n 1, 1) := by decide +kernel
theorem dX0_letBlame_5 : decode cX0_letBlame 5 = .ok (.iload_n 2, 1) := by decide +kernel
theorem dX0_letBlame_6 : decode cX0_letBlame 6 = .ok (.iastore, 1) := by decide +kernel
theorem dX0_letBlame_7 : decode cX0_letBlame 7 = .ok (.aload_n 0, 1) := by decide +kernel
theorem dX0_letBlame_8 : decode cX0_letBlame 8 = .ok (.getfield 33, 3) := by decide +kernel
theorem dX0_letBlame_11 : decode cX0_letBlame 11 = .ok (.iload_n 1, 1) := by decide +kernel
theorem dX0_letBlame_12 : decode cX0_letBlame 12 = .ok (.aload_n 0, 1) := by decide +kernel
theorem dX0_letBlame_13 : decode cX0_letBlame 13 = .ok (.getfield 36, 3) := by decide +kernel
theorem dX0_letBlame_16 : decode cX0_letBlame 16 = .ok (.iload_n 1, 1) := by decide +kernel
theorem dX0_letBlame_17 : decode cX0_letBlame 17 = .ok (.iaload, 1) := by decide +kernel
theorem dX0_letBlame_18 : decode cX0_letBlame 18 = .ok (.iastore, 1) := by decide +kernel
theorem dX0_letBlame_19 : decode cX0_letBlame 19 = .ok (.return_, 1) := by decide +kernel
set_option maxRecDepth 20000 in
theorem ggX0_letAstronomersSee_X0_simplest : GoodIn wsX0_letAstronomersSee wsX0_simplest := goodIn_r _ [8, 9, 10, 11, 7, 12, 13, 14, 15, 16, 17, 18, 19, 20, 21, 22, 23, 24, 25, 34, 35, 36, 37, 38, 39, 40, 41, 42, 43] (by decide +kernel) (by decide +kernel)
set_option maxRecDepth 20000 in
theorem gX0_letAstronomersSee_X0_simplest : GoodIn wsX0_letAstronomersSee (wsV RX0 171 RX0 yX0_simplest wsX0_simplest) := goodIn_app (goodIn_of _ (by decide +kernel)) ggX0_letAstronomersSee_X0_simplest
set_option maxRecDepth 20000 in
theorem ggX0_letAstronomersSee_X0_explains : GoodIn wsX0_letAstronomersSee wsX0_explains := goodIn_r _ [28] (by decide +kernel) (by decide +kernel)
set_option maxRecDepth 20000 in
theorem gX0_letAstronomersSee_X0_explains : GoodIn wsX0_letAstronomersSee (va_wsS RX0 139 yX0_explains wsX0_explains) := goodIn_app (goodIn_of _ (by decide +kernel)) ggX0_letAstronomersSee_X0_explains
set_option maxRecDepth 20000 in
theorem ggX0_letAstronomersSee_X0_letBlame : GoodIn wsX0_letAstronomersSee wsX0_letBlame := goodIn_r _ [32, 2, 3, 33, 34, 35, 36, 37, 38, 39, 40, 41, 42, 43] (by decide +kernel) (by decide +kernel)
set_option maxRecDepth 20000 in
theorem gX0_letAstronomersSee_X0_letBlame : GoodIn wsX0_letAstronomersSee (wsV RX0 56 RX0 yX0_letBlame wsX0_letBlame) := goodIn_app (goodIn_of _ (by decide +kernel)) ggX0_letAstronomersSee_X0_letBlame
theorem dX0_letAstronomersSee_0 : decode cX0_letAstronomersSee 0 = .ok (.aload_n 0, 1) := by decide +kernel
theorem dX0_letAstronomersSee_1 : decode cX0_letAstronomersSee 1 = .ok (.invokevirtual 171, 3) := by decide +kernel
theorem dX0_letAstronomersSee_4 : decode cX0_letAstronomersSee 4 = .ok (.istore_n 3, 1) := by decide +kernel
theorem dX0_letAstronomersSee_5 : decode cX0_letAstronomersSee 5 = .ok (.iconst 0, 1) := by decide +kernel
theorem dX0_letAstronomersSee_6 : decode cX0_letAstronomersSee 6 = .ok (.istore 4, 2) := by decide +kernel
theorem dX0_letAstronomersSee_8 : decode cX0_letAstronomersSee 8 = .ok (.iconst 0, 1) := by decide +kernel
theorem dX0_letAstronomersSee_9 : decode cX0_letAstronomersSee 9 = .ok (.istore 5, 2) := by decide +kernel
theorem dX0_letAstronomersSee_11 : decode cX0_letAstronomersSee 11 = .ok (.iload 5, 2) := by decide +kernel
theorem dX0_letAstronomersSee_13 : decode cX0_letAstronomersSee 13 = .ok (.aload_n 0, 1) := by decide +kernel
theorem dX0_letAstronomersSee_14 : decode cX0_letAstronomersSee 14 = .ok (.getfield 27, 3) := by decide +kernel
theorem dX0_letAstronomersSee_17 : decode cX0_letAstronomersSee 17 = .ok (.if_icmp .ge 66, 3) := by decide +kernel
theorem dX0_letAstronomersSee_20 : decode cX0_letAstronomersSee 20 = .ok (.aload_n 0, 1) := by decide +kernel
theorem dX0_letAstronomersSee_21 : decode cX0_letAstronomersSee 21 = .ok (.getfield 30, 3) := by decide +kernel
theorem dX0_letAstronomersSee_24 : decode cX0_letAstronomersSee 24 = .ok (.iload 5, 2) := by decide +kernel
theorem dX0_letAstronomersSee_26 : decode cX0_letAstronomersSee 26 = .ok (.iaload, 1) := by decide +kernel
theorem dX0_letAstronomersSee_27 : decode cX0_letAstronomersSee 27 = .ok (.iload_n 1, 1) := by decide +kernel
theorem dX0_letAstronomersSee_28 : decode cX0_letAstronomersSee 28 = .ok (.iload_n 2, 1) := by decide +kernel
theorem dX0_letAstronomersSee_29 : decode cX0_letAstronomersSee 29 = .ok (.invokestatic 139, 3) := by decide +kernel
theorem dX0_letAstronomersSee_32 : decode cX0_letAstronomersSee 32 = .ok (.ifCond .eq 6, 3) := by decide +kernel
theorem dX0_letAstronomersSee_35 : decode cX0_letAstronomersSee 35 = .ok (.goto 42, 3) := by decide +kernel
theorem dX0_letAstronomersSee_38 : decode cX0_letAstronomersSee 38 = .ok (.aload_n 0, 1) := by decide +kernel
theorem dX0_letAstronomersSee_39 : decode cX0_letAstronomersSee 39 = .ok (.getfield 33, 3) := by decide +kernel
theorem dX0_letAstronomersSee_42 : decode cX0_letAstronomersSee 42 = .ok (.iload 5, 2) := by decide +kernel
theorem dX0_letAstronomersSee_44 : decode cX0_letAstronomersSee 44 = .ok (.iaload, 1) := by decide +kernel
theorem dX0_letAstronomersSee_45 : decode cX0_letAstronomersSee 45 = .ok (.ifCond .le 17, 3) := by decide +kernel
theorem dX0_letAstronomersSee_48 : decode cX0_letAstronomersSee 48 = .ok (.aload_n 0, 1) := by decide +kernel
theorem dX0_letAstronomersSee_49 : decode cX0_letAstronomersSee 49 = .ok (.getfield 33, 3) := by decide +kernel
theorem dX0_letAstronomersSee_52 : decode cX0_letAstronomersSee 52 = .ok (.iload 5, 2) := by decide +kernel
theorem dX0_letAstronomersSee_54 : decode cX0_letAstronomersSee 54 = .ok (.dup2, 1) := by decide +kernel
theorem dX0_letAstronomersSee_55 : decode cX0_letAstronomersSee 55 = .ok (.iaload, 1) := by decide +kernel
theorem dX0_letAstronomersSee_56 : decode cX0_letAstronomersSee 56 = .ok (.iconst 1, 1) := by decide +kernel
theorem dX0_letAstronomersSee_57 : decode cX0_letAstronomersSee 57 = .ok (.isub, 1) := by decide +kernel
theorem dX0_letAstronomersSee_58 : decode cX0_letAstronomersSee 58 = .ok (.iastore, 1) := by decide +kernel
theorem dX0_letAstronomersSee_59 : decode cX0_letAstronomersSee 59 = .ok (.goto 18, 3) := by decide +kernel
theorem dX0_letAstronomersSee_62 : decode cX0_letAstronomersSee 62 = .ok (.iload_n 3, 1) := by decide +kernel
theorem dX0_letAstronomersSee_63 : decode cX0_letAstronomersSee 63 = .ok (.iconst (-1), 1) := by decide +kernel
theorem dX0_letAstronomersSee_64 : decode cX0_letAstronomersSee 64 = .ok (.if_icmp .eq 13, 3) := by decide +kernel
theorem dX0_letAstronomersSee_67 : decode cX0_letAstronomersSee 67 = .ok (.aload_n 0, 1) := by decide +kernel
theorem dX0_letAstronomersSee_68 : decode cX0_letAstronomersSee 68 = .ok (.iload 5, 2) := by decide +kernel
theorem dX0_letAstronomersSee_70 : decode cX0_letAstronomersSee 70 = .ok (.iload_n 3, 1) := by decide +kernel
theorem dX0_letAstronomersSee_71 : decode cX0_letAstronomersSee 71 = .ok (.invokevirtual 56, 3) := by decide +kernel
theorem dX0_letAstronomersSee_74 : decode cX0_letAstronomersSee 74 = .ok (.iinc 4 1, 3) := by decide +kernel
theorem dX0_letAstronomersSee_77 : decode cX0_letAstronomersSee 77 = .ok (.iinc 5 1, 3) := by decide +kernel
theorem dX0_letAstronomersSee_80 : decode cX0_letAstronomersSee 80 = .ok (.goto (-69), 3) := by decide +kernel
theorem dX0_letAstronomersSee_83 : decode cX0_letAstronomersSee 83 = .ok (.iload 4, 2) := by decide +kernel
theorem dX0_letAstronomersSee_85 : decode cX0_letAstronomersSee 85 = .ok (.ireturn, 1) := by decide +kernel
theorem dX0_mixed_0 : decode cX0_mixed 0 = .ok (.lload_n 0, 1) := by decide +kernel
theorem dX0_mixed_1 : decode cX0_mixed 1 = .ok (.ldc2_w 202, 3) := by decide +kernel
theorem dX0_mixed_4 : decode cX0_mixed 4 = .ok (.lmul, 1) := by decide +kernel
theorem dX0_mixed_5 : decode cX0_mixed 5 = .ok (.lload_n 2, 1) := by decide +kernel
theorem dX0_mixed_6 : decode cX0_mixed 6 = .ok (.ladd, 1) := by decide +kernel
theorem dX0_mixed_7 : decode cX0_mixed 7 = .ok (.lreturn, 1) := by decide +kernel
theorem dX0_oneIf_0 : decode cX0_oneIf 0 = .ok (.iload_n 0, 1) := by decide +kernel
theorem dX0_oneIf_1 : decode cX0_oneIf 1 = .ok (.ifCond .eq 7, 3) := by decide +kernel
theorem dX0_oneIf_4 : decode cX0_oneIf 4 = .ok (.lconst 1, 1) := by decide +kernel
theorem dX0_oneIf_5 : decode cX0_oneIf 5 = .ok (.goto 4, 3) := by decide +kernel
theorem dX0_oneIf_8 : decode cX0_oneIf 8 = .ok (.lconst 0, 1) := by decide +kernel
theorem dX0_oneIf_9 : decode cX0_oneIf 9 = .ok (.lreturn, 1) := by decide +kernel
set_option maxRecDepth 20000 in
theorem ggX0_mixedWithThings_X0_nightsWith : GoodIn wsX0_mixedWithThings wsX0_nightsWith := goodIn_ca (goodIn_r _ [6, 7, 8, 9, 10, 11, 5, 12, 13, 14, 1, 15, 16, 17, 18, 19, 20, 68, 69, 70, 71, 72, 73, 74, 75, 76, 77] (by decide +kernel) (by decide +kernel)) (goodIn_sub (fun _ h => List.mem_cons_of_mem _ (List.mem_append_right _ h)) (by decide +kernel))
set_option maxRecDepth 20000 in
theorem gX0_mixedWithThings_X0_nightsWith : GoodIn wsX0_mixedWithThings (wsV RX0 204 RX0 yX0_nightsWith wsX0_nightsWith) := goodIn_app (goodIn_of _ (by decide +kernel)) ggX0_mixedWithThings_X0_nightsWith
set_option maxRecDepth 20000 in
theorem ggX0_mixedWithThings_X0_mixed : GoodIn wsX0_mixedWithThings wsX0_mixed := goodIn_r _ [23, 24] (by decide +kernel) (by decide +kernel)
set_option maxRecDepth 20000 in
theorem gX0_mixedWithThings_X0_mixed : GoodIn wsX0_mixedWithThings (va_wsS RX0 148 yX0_mixed wsX0_mixed) := goodIn_app (goodIn_of _ (by decide +kernel)) ggX0_mixedWithThings_X0_mixed
set_option maxRecDepth 20000 in
theorem ggX0_mixedWithThings_X0_smudgesWith : GoodIn wsX0_mixedWithThings wsX0_smudgesWith := goodIn_ca (goodIn_r _ [28, 7, 29, 8, 9, 10, 11, 5, 12, 13, 14, 1, 15, 16, 17, 18, 19, 20, 68, 69, 70, 71, 72, 73, 74, 75, 76, 77] (by decide +kernel) (by decide +kernel)) (goodIn_sub (fun _ h => List.mem_cons_of_mem _ (List.mem_append_right _ h)) (by decide +kernel))
set_option maxRecDepth 20000 in
theorem gX0_mixedWithThings_X0_smudgesWith : GoodIn wsX0_mixedWithThings (wsV RX0 207 RX0 yX0_smudgesWith wsX0_smudgesWith) := goodIn_app (goodIn_of _ (by decide +kernel)) ggX0_mixedWithThings_X0_smudgesWith
set_option maxRecDepth 20000 in
theorem ggX0_mixedWithThings_X0_isCleared : GoodIn wsX0_mixedWithThings wsX0_isCleared := goodIn_ca (goodIn_r _ [33, 9, 10, 11, 5, 12, 13, 14, 1, 34, 35, 36, 37, 7, 29, 8, 15, 16, 17, 18, 19, 20, 68, 69, 70, 71, 72, 73, 74, 75, 76, 77] (by decide +kernel) (by decide +kernel)) (goodIn_sub (fun _ h => List.mem_cons_of_mem _ (List.mem_append_right _ h)) (by decide +kernel))
set_option maxRecDepth 20000 in
theorem gX0_mixedWithThings_X0_isCleared : GoodIn wsX0_mixedWithThings (wsV RX0 210 RX0 yX0_isCleared wsX0_isCleared) := goodIn_app (goodIn_of _ (by decide +kernel)) ggX0_mixedWithThings_X0_isCleared
set_option maxRecDepth 20000 in
theorem ggX0_mixedWithThings_X0_oneIf : GoodIn wsX0_mixedWithThings wsX0_oneIf := goodIn_r _ [40] (by decide +kernel) (by decide +kernel)
set_option maxRecDepth 20000 in
theorem gX0_mixedWithThings_X0_oneIf : GoodIn wsX0_mixedWithThings (va_wsS RX0 158 yX0_oneIf wsX0_oneIf) := goodIn_app (goodIn_of _ (by decide +kernel)) ggX0_mixedWithThings_X0_oneIf
set_option maxRecDepth 20000 in
theorem ggX0_mixedWithThings_X0_isProved : GoodIn wsX0_mixedWithThings wsX0_isProved := goodIn_ca (goodIn_r _ [44, 7, 8, 29, 9, 10, 11, 5, 12, 13, 14, 1, 34, 35, 36, 37, 18, 19, 20, 15, 16, 17, 68, 69, 70, 71, 72, 73, 74, 75, 76, 77] (by decide +kernel) (by decide +kernel)) (goodIn_sub (fun _ h => List.mem_cons_of_mem _ (List.mem_append_right _ h)) (by decide +kernel))
set_option maxRecDepth 20000 in
theorem gX0_mixedWithThings_X0_isProved : GoodIn wsX0_mixedWithThings (wsV RX0 214 RX0 yX0_isProved wsX0_isProved) := goodIn_app (goodIn_of _ (by decide +kernel)) ggX0_mixedWithThings_X0_isProved
set_option maxRecDepth 20000 in
theorem ggX0_mixedWithThings_X0_setsWith : GoodIn wsX0_mixedWithThings wsX0_setsWith := goodIn_ca (goodIn_r _ [48, 9, 10, 11, 5, 12, 13, 14, 1, 18, 19, 20, 49, 50, 51, 52, 53, 54, 55, 56, 57, 58, 59, 60, 61, 68, 69, 70, 71, 72, 73, 74, 75, 76, 77] (by decide +kernel) (by decide +kernel)) (goodIn_sub (fun _ h => List.mem_cons_of_mem _ (List.mem_append_right _ h)) (by decide +kernel))
set_option maxRecDepth 20000 in
theorem gX0_mixedWithThings_X0_setsWith : GoodIn wsX0_mixedWithThings (wsV RX0 217 RX0 yX0_setsWith wsX0_setsWith) := goodIn_app (goodIn_of _ (by decide +kernel)) ggX0_mixedWithThings_X0_setsWith
set_option maxRecDepth 20000 in
theorem ggX0_mixedWithThings_X0_votesFor : GoodIn wsX0_mixedWithThings wsX0_votesFor := goodIn_ca (goodIn_r _ [65, 66, 67, 9, 10, 11, 5, 12, 13, 14, 1, 15, 16, 17, 18, 19, 20, 68, 69, 70, 71, 72, 73, 74, 75, 76, 77] (by decide +kernel) (by decide +kernel)) (goodIn_sub (fun _ h => List.mem_cons_of_mem _ (List.mem_append_right _ h)) (by decide +kernel))
set_option maxRecDepth 20000 in
theorem gX0_mixedWithThings_X0_votesFor : GoodIn wsX0_mixedWithThings (wsV RX0 108 RX0 yX0_votesFor wsX0_votesFor) := goodIn_app (goodIn_of _ (by decide +kernel)) ggX0_mixedWithThings_X0_votesFor
theorem dX0_mixedWithThings_0 : decode cX0_mixedWithThings 0 = .ok (.lload_n 1, 1) := by decide +kernel
theorem dX0_mixedWithThings_1 : decode cX0_mixedWithThings 1 = .ok (.lstore_n 3, 1) := by decide +kernel
theorem dX0_mixedWithThings_2 : decode cX0_mixedWithThings 2 = .ok (.iconst 0, 1) := by decide +kernel
theorem dX0_mixedWithThings_3 : decode cX0_mixedWithThings 3 = .ok (.istore 5, 2) := by decide +kernel
theorem dX0_mixedWithThings_5 : decode cX0_mixedWithThings 5 = .ok (.iload 5, 2) := by decide +kernel
theorem dX0_mixedWithThings_7 : decode cX0_mixedWithThings 7 = .ok (.aload_n 0, 1) := by decide +kernel
theorem dX0_mixedWithThings_8 : decode cX0_mixedWithThings 8 = .ok (.getfield 9, 3) := by decide +kernel
theorem dX0_mixedWithThings_11 : decode cX0_mixedWithThings 11 = .ok (.if_icmp .ge 85, 3) := by decide +kernel
theorem dX0_mixedWithThings_14 : decode cX0_mixedWithThings 14 = .ok (.lload_n 3, 1) := by decide +kernel
theorem dX0_mixedWithThings_15 : decode cX0_mixedWithThings 15 = .ok (.aload_n 0, 1) := by decide +kernel
theorem dX0_mixedWithThings_16 : decode cX0_mixedWithThings 16 = .ok (.iload 5, 2) := by decide +kernel
theorem dX0_mixedWithThings_18 : decode cX0_mixedWithThings 18 = .ok (.invokevirtual 204, 3) := by decide +kernel
theorem dX0_mixedWithThings_21 : decode cX0_mixedWithThings 21 = .ok (.i2l, 1) := by decide +kernel
theorem dX0_mixedWithThings_22 : decode cX0_mixedWithThings 22 = .ok (.invokestatic 148, 3) := by decide +kernel
theorem dX0_mixedWithThings_25 : decode cX0_mixedWithThings 25 = .ok (.lstore_n 3, 1) := by decide +kernel
theorem dX0_mixedWithThings_26 : decode cX0_mixedWithThings 26 = .ok (.lload_n 3, 1) := by decide +kernel
theorem dX0_mixedWithThings_27 : decode cX0_mixedWithThings 27 = .ok (.aload_n 0, 1) := by decide +kernel
theorem dX0_mixedWithThings_28 : decode cX0_mixedWithThings 28 = .ok (.iload 5, 2) := by decide +kernel
theorem dX0_mixedWithThings_30 : decode cX0_mixedWithThings 30 = .ok (.invokevirtual 207, 3) := by decide +kernel
theorem dX0_mixedWithThings_33 : decode cX0_mixedWithThings 33 = .ok (.i2l, 1) := by decide +kernel
theorem dX0_mixedWithThings_34 : decode cX0_mixedWithThings 34 = .ok (.invokestatic 148, 3) := by decide +kernel
theorem dX0_mixedWithThings_37 : decode cX0_mixedWithThings 37 = .ok (.lstore_n 3, 1) := by decide +kernel
theorem dX0_mixedWithThings_38 : decode cX0_mixedWithThings 38 = .ok (.lload_n 3, 1) := by decide +kernel
theorem dX0_mixedWithThings_39 : decode cX0_mixedWithThings 39 = .ok (.aload_n 0, 1) := by decide +kernel
theorem dX0_mixedWithThings_40 : decode cX0_mixedWithThings 40 = .ok (.iload 5, 2) := by decide +kernel
theorem dX0_mixedWithThings_42 : decode cX0_mixedWithThings 42 = .ok (.invokevirtual 210, 3) := by decide +kernel
theorem dX0_mixedWithThings_45 : decode cX0_mixedWithThings 45 = .ok (.invokestatic 158, 3) := by decide +kernel
theorem dX0_mixedWithThings_48 : decode cX0_mixedWithThings 48 = .ok (.invokestatic 148, 3) := by decide +kernel
theorem dX0_mixedWithThings_51 : decode cX0_mixedWithThings 51 = .ok (.lstore_n 3, 1) := by decide +kernel
theorem dX0_mixedWithThings_52 : decode cX0_mixedWithThings 52 = .ok (.lload_n 3, 1) := by decide +kernel
theorem dX0_mixedWithThings_53 : decode cX0_mixedWithThings 53 = .ok (.aload_n 0, 1) := by decide +kernel
theorem dX0_mixedWithThings_54 : decode cX0_mixedWithThings 54 = .ok (.iload 5, 2) := by decide +kernel
theorem dX0_mixedWithThings_56 : decode cX0_mixedWithThings 56 = .ok (.invokevirtual 214, 3) := by decide +kernel
theorem dX0_mixedWithThings_59 : decode cX0_mixedWithThings 59 = .ok (.invokestatic 158, 3) := by decide +kernel
theorem dX0_mixedWithThings_62 : decode cX0_mixedWithThings 62 = .ok (.invokestatic 148, 3) := by decide +kernel
theorem dX0_mixedWithThings_65 : decode cX0_mixedWithThings 65 = .ok (.lstore_n 3, 1) := by decide +kernel
theorem dX0_mixedWithThings_66 : decode cX0_mixedWithThings 66 = .ok (.lload_n 3, 1) := by decide +kernel
theorem dX0_mixedWithThings_67 : decode cX0_mixedWithThings 67 = .ok (.aload_n 0, 1) := by decide +kernel
theorem dX0_mixedWithThings_68 : decode cX0_mixedWithThings 68 = .ok (.iload 5, 2) := by decide +kernel
theorem dX0_mixedWithThings_70 : decode cX0_mixedWithThings 70 = .ok (.invokevirtual 217, 3) := by decide +kernel
theorem dX0_mixedWithThings_73 : decode cX0_mixedWithThings 73 = .ok (.i2l, 1) := by decide +kernel
theorem dX0_mixedWithThings_74 : decode cX0_mixedWithThings 74 = .ok (.invokestatic 148, 3) := by decide +kernel
theorem dX0_mixedWithThings_77 : decode cX0_mixedWithThings 77 = .ok (.lstore_n 3, 1) := by decide +kernel
theorem dX0_mixedWithThings_78 : decode cX0_mixedWithThings 78 = .ok (.lload_n 3, 1) := by decide +kernel
theorem dX0_mixedWithThings_79 : decode cX0_mixedWithThings 79 = .ok (.aload_n 0, 1) := by decide +kernel
theorem dX0_mixedWithThings_80 : decode cX0_mixedWithThings 80 = .ok (.iload 5, 2) := by decide +kernel
theorem dX0_mixedWithThings_82 : decode cX0_mixedWithThings 82 = .ok (.invokevirtual 108, 3) := by decide +kernel
theorem dX0_mixedWithThings_85 : decode cX0_mixedWithThings 85 = .ok (.i2l, 1) := by decide +kernel
theorem dX0_mixedWithThings_86 : decode cX0_mixedWithThings 86 = .ok (.invokestatic 148, 3) := by decide +kernel
theorem dX0_mixedWithThings_89 : decode cX0_mixedWithThings 89 = .ok (.lstore_n 3, 1) := by decide +kernel
theorem dX0_mixedWithThings_90 : decode cX0_mixedWithThings 90 = .ok (.iinc 5 1, 3) := by decide +kernel
theorem dX0_mixedWithThings_93 : decode cX0_mixedWithThings 93 = .ok (.goto (-88), 3) := by decide +kernel
theorem dX0_mixedWithThings_96 : decode cX0_mixedWithThings 96 = .ok (.lload_n 3, 1) := by decide +kernel
theorem dX0_mixedWithThings_97 : decode cX0_mixedWithThings 97 = .ok (.lreturn, 1) := by decide +kernel
set_option maxRecDepth 20000 in
theorem ggX0_mixedWithNights_X0_usedIn : GoodIn wsX0_mixedWithNights wsX0_usedIn := goodIn_ca (goodIn_r _ [6, 7, 8, 9, 10, 5, 11, 12, 13, 1, 26, 27, 28, 29, 30, 31, 32, 33, 34, 35] (by decide +kernel) (by decide +kernel)) (goodIn_sub (fun _ h => List.mem_cons_of_mem _ (List.mem_append_right _ h)) (by decide +kernel))
set_option maxRecDepth 20000 in
theorem gX0_mixedWithNights_X0_usedIn : GoodIn wsX0_mixedWithNights (wsV RX0 220 RX0 yX0_usedIn wsX0_usedIn) := goodIn_app (goodIn_of _ (by decide +kernel)) ggX0_mixedWithNights_X0_usedIn
set_option maxRecDepth 20000 in
theorem ggX0_mixedWithNights_X0_mixed : GoodIn wsX0_mixedWithNights wsX0_mixed := goodIn_r _ [16, 17] (by decide +kernel) (by decide +kernel)
set_option maxRecDepth 20000 in
theorem gX0_mixedWithNights_X0_mixed : GoodIn wsX0_mixedWithNights (va_wsS RX0 148 yX0_mixed wsX0_mixed) := goodIn_app (goodIn_of _ (by decide +kernel)) ggX0_mixedWithNights_X0_mixed
set_option maxRecDepth 20000 in
theorem ggX0_mixedWithNights_X0_isSmudged : GoodIn wsX0_mixedWithNights wsX0_isSmudged := goodIn_ca (goodIn_r _ [21, 22, 8, 9, 10, 5, 11, 12, 13, 1, 26, 27, 28, 29, 30, 31, 32, 33, 34, 35] (by decide +kernel) (by decide +kernel)) (goodIn_sub (fun _ h => List.mem_cons_of_mem _ (List.mem_append_right _ h)) (by decide +kernel))
set_option maxRecDepth 20000 in
theorem gX0_mixedWithNights_X0_isSmudged : GoodIn wsX0_mixedWithNights (wsV RX0 223 RX0 yX0_isSmudged wsX0_isSmudged) := goodIn_app (goodIn_of _ (by decide +kernel)) ggX0_mixedWithNights_X0_isSmudged
set_option maxRecDepth 20000 in
theorem ggX0_mixedWithNights_X0_oneIf : GoodIn wsX0_mixedWithNights wsX0_oneIf := goodIn_r _ [25] (by decide +kernel) (by decide +kernel)
set_option maxRecDepth 20000 in
theorem gX0_mixedWithNights_X0_oneIf : GoodIn wsX0_mixedWithNights (va_wsS RX0 158 yX0_oneIf wsX0_oneIf) := goodIn_app (goodIn_of _ (by decide +kernel)) ggX0_mixedWithNights_X0_oneIf
theorem dX0_mixedWithNights_0 : decode cX0_mixedWithNights 0 = .ok (.lload_n 1, 1) := by decide +kernel
theorem dX0_mixedWithNights_1 : decode cX0_mixedWithNights 1 = .ok (.lstore_n 3, 1) := by decide +kernel
theorem dX0_mixedWithNights_2 : decode cX0_mixedWithNights 2 = .ok (.iconst 0, 1) := by decide +kernel
theorem dX0_mixedWithNights_3 : decode cX0_mixedWithNights 3 = .ok (.istore 5, 2) := by decide +kernel
theorem dX0_mixedWithNights_5 : decode cX0_mixedWithNights 5 = .ok (.iload 5, 2) := by decide +kernel
theorem dX0_mixedWithNights_7 : decode cX0_mixedWithNights 7 = .ok (.aload_n 0, 1) := by decide +kernel
theorem dX0_mixedWithNights_8 : decode cX0_mixedWithNights 8 = .ok (.getfield 13, 3) := by decide +kernel
theorem dX0_mixedWithNights_11 : decode cX0_mixedWithNights 11 = .ok (.if_icmp .ge 35, 3) := by decide +kernel
theorem dX0_mixedWithNights_14 : decode cX0_mixedWithNights 14 = .ok (.lload_n 3, 1) := by decide +kernel
theorem dX0_mixedWithNights_15 : decode cX0_mixedWithNights 15 = .ok (.aload_n 0, 1) := by decide +kernel
theorem dX0_mixedWithNights_16 : decode cX0_mixedWithNights 16 = .ok (.iload 5, 2) := by decide +kernel
theorem dX0_mixedWithNights_18 : decode cX0_mixedWithNights 18 = .ok (.invokevirtual 220, 3) := by decide +kernel
theorem dX0_mixedWithNights_21 : decode cX0_mixedWithNights 21 = .ok (.i2l, 1) := by decide +kernel
theorem dX0_mixedWithNights_22 : decode cX0_mixedWithNights 22 = .ok (.invokestatic 148, 3) := by decide +kernel
theorem dX0_mixedWithNights_25 : decode cX0_mixedWithNights 25 = .ok (.lstore_n 3, 1) := by decide +kernel
theorem dX0_mixedWithNights_26 : decode cX0_mixedWithNights 26 = .ok (.lload_n 3, 1) := by decide +kernel
theorem dX0_mixedWithNights_27 : decode cX0_mixedWithNights 27 = .ok (.aload_n 0, 1) := by decide +kernel
theorem dX0_mixedWithNights_28 : decode cX0_mixedWithNights 28 = .ok (.iload 5, 2) := by decide +kernel
theorem dX0_mixedWithNights_30 : decode cX0_mixedWithNights 30 = .ok (.invokevirtual 223, 3) := by decide +kernel
theorem dX0_mixedWithNights_33 : decode cX0_mixedWithNights 33 = .ok (.invokestatic 158, 3) := by decide +kernel
theorem dX0_mixedWithNights_36 : decode cX0_mixedWithNights 36 = .ok (.invokestatic 148, 3) := by decide +kernel
theorem dX0_mixedWithNights_39 : decode cX0_mixedWithNights 39 = .ok (.lstore_n 3, 1) := by decide +kernel
theorem dX0_mixedWithNights_40 : decode cX0_mixedWithNights 40 = .ok (.iinc 5 1, 3) := by decide +kernel
theorem dX0_mixedWithNights_43 : decode cX0_mixedWithNights 43 = .ok (.goto (-38), 3) := by decide +kernel
theorem dX0_mixedWithNights_46 : decode cX0_mixedWithNights 46 = .ok (.lload_n 3, 1) := by decide +kernel
theorem dX0_mixedWithNights_47 : decode cX0_mixedWithNights 47 = .ok (.lreturn, 1) := by decide +kernel
set_option maxRecDepth 20000 in
theorem ggX0_mixedWithAstronomers_X0_blamedBy : GoodIn wsX0_mixedWithAstronomers wsX0_blamedBy := goodIn_ca (goodIn_r _ [6, 7, 8, 9, 10, 5, 11, 12, 13, 1, 32, 33, 34, 35, 36, 37, 38, 39, 40, 41] (by decide +kernel) (by decide +kernel)) (goodIn_sub (fun _ h => List.mem_cons_of_mem _ (List.mem_append_right _ h)) (by decide +kernel))
set_option maxRecDepth 20000 in
theorem gX0_mixedWithAstronomers_X0_blamedBy : GoodIn wsX0_mixedWithAstronomers (wsV RX0 226 RX0 yX0_blamedBy wsX0_blamedBy) := goodIn_app (goodIn_of _ (by decide +kernel)) ggX0_mixedWithAstronomers_X0_blamedBy
set_option maxRecDepth 20000 in
theorem ggX0_mixedWithAstronomers_X0_mixed : GoodIn wsX0_mixedWithAstronomers wsX0_mixed := goodIn_r _ [16, 17] (by decide +kernel) (by decide +kernel)
set_option maxRecDepth 20000 in
theorem gX0_mixedWithAstronomers_X0_mixed : GoodIn wsX0_mixedWithAstronomers (va_wsS RX0 148 yX0_mixed wsX0_mixed) := goodIn_app (goodIn_of _ (by decide +kernel)) ggX0_mixedWithAstronomers_X0_mixed
set_option maxRecDepth 20000 in
theorem ggX0_mixedWithAstronomers_X0_stubbornnessOf : GoodIn wsX0_mixedWithAstronomers wsX0_stubbornnessOf := goodIn_ca (goodIn_r _ [21, 22, 8, 9, 10, 5, 11, 12, 13, 1, 32, 33, 34, 35, 36, 37, 38, 39, 40, 41] (by decide +kernel) (by decide +kernel)) (goodIn_sub (fun _ h => List.mem_cons_of_mem _ (List.mem_append_right _ h)) (by decide +kernel))
set_option maxRecDepth 20000 in
theorem gX0_mixedWithAstronomers_X0_stubbornnessOf : GoodIn wsX0_mixedWithAstronomers (wsV RX0 229 RX0 yX0_stubbornnessOf wsX0_stubbornnessOf) := goodIn_app (goodIn_of _ (by decide +kernel)) ggX0_mixedWithAstronomers_X0_stubbornnessOf
set_option maxRecDepth 20000 in
theorem ggX0_mixedWithAstronomers_X0_unexplainedBy : GoodIn wsX0_mixedWithAstronomers wsX0_unexplainedBy := goodIn_ca (goodIn_r _ [26, 7, 8, 9, 10, 5, 11, 12, 13, 1, 27, 28, 29, 30, 31, 32, 33, 34, 35, 36, 37, 38, 39, 40, 41] (by decide +kernel) (by decide +kernel)) (goodIn_sub (fun _ h => List.mem_cons_of_mem _ (List.mem_append_right _ h)) (by decide +kernel))
set_option maxRecDepth 20000 in
theorem gX0_mixedWithAstronomers_X0_unexplainedBy : GoodIn wsX0_mixedWithAstronomers (wsV RX0 232 RX0 yX0_unexplainedBy wsX0_unexplainedBy) := goodIn_app (goodIn_of _ (by decide +kernel)) ggX0_mixedWithAstronomers_X0_unexplainedBy
theorem dX0_mixedWithAstronomers_0 : decode cX0_mixedWithAstronomers 0 = .ok (.lload_n 1, 1) := by decide +kernel
theorem dX0_mixedWithAstronomers_1 : decode cX0_mixedWithAstronomers 1 = .ok (.lstore_n 3, 1) := by decide +kernel
theorem dX0_mixedWithAstronomers_2 : decode cX0_mixedWithAstronomers 2 = .ok (.iconst 0, 1) := by decide +kernel
theorem dX0_mixedWithAstronomers_3 : decode cX0_mixedWithAstronomers 3 = .ok (.istore 5, 2) := by decide +kernel
theorem dX0_mixedWithAstronomers_5 : decode cX0_mixedWithAstronomers 5 = .ok (.iload 5, 2) := by decide +kernel
theorem dX0_mixedWithAstronomers_7 : decode cX0_mixedWithAstronomers 7 = .ok (.aload_n 0, 1) := by decide +kernel
theorem dX0_mixedWithAstronomers_8 : decode cX0_mixedWithAstronomers 8 = .ok (.getfield 27, 3) := by decide +kernel
theorem dX0_mixedWithAstronomers_11 : decode cX0_mixedWithAstronomers 11 = .ok (.if_icmp .ge 45, 3) := by decide +kernel
theorem dX0_mixedWithAstronomers_14 : decode cX0_mixedWithAstronomers 14 = .ok (.lload_n 3, 1) := by decide +kernel
theorem dX0_mixedWithAstronomers_15 : decode cX0_mixedWithAstronomers 15 = .ok (.aload_n 0, 1) := by decide +kernel
theorem dX0_mixedWithAstronomers_16 : decode cX0_mixedWithAstronomers 16 = .ok (.iload 5, 2) := by decide +kernel
theorem dX0_mixedWithAstronomers_18 : decode cX0_mixedWithAstronomers 18 = .ok (.invokevirtual 226, 3) := by decide +kernel
theorem dX0_mixedWithAstronomers_21 : decode cX0_mixedWithAstronomers 21 = .ok (.i2l, 1) := by decide +kernel
theorem dX0_mixedWithAstronomers_22 : decode cX0_mixedWithAstronomers 22 = .ok (.invokestatic 148, 3) := by decide +kernel
theorem dX0_mixedWithAstronomers_25 : decode cX0_mixedWithAstronomers 25 = .ok (.lstore_n 3, 1) := by decide +kernel
theorem dX0_mixedWithAstronomers_26 : decode cX0_mixedWithAstronomers 26 = .ok (.lload_n 3, 1) := by decide +kernel
theorem dX0_mixedWithAstronomers_27 : decode cX0_mixedWithAstronomers 27 = .ok (.aload_n 0, 1) := by decide +kernel
theorem dX0_mixedWithAstronomers_28 : decode cX0_mixedWithAstronomers 28 = .ok (.iload 5, 2) := by decide +kernel
theorem dX0_mixedWithAstronomers_30 : decode cX0_mixedWithAstronomers 30 = .ok (.invokevirtual 229, 3) := by decide +kernel
theorem dX0_mixedWithAstronomers_33 : decode cX0_mixedWithAstronomers 33 = .ok (.i2l, 1) := by decide +kernel
theorem dX0_mixedWithAstronomers_34 : decode cX0_mixedWithAstronomers 34 = .ok (.invokestatic 148, 3) := by decide +kernel
theorem dX0_mixedWithAstronomers_37 : decode cX0_mixedWithAstronomers 37 = .ok (.lstore_n 3, 1) := by decide +kernel
theorem dX0_mixedWithAstronomers_38 : decode cX0_mixedWithAstronomers 38 = .ok (.lload_n 3, 1) := by decide +kernel
theorem dX0_mixedWithAstronomers_39 : decode cX0_mixedWithAstronomers 39 = .ok (.aload_n 0, 1) := by decide +kernel
theorem dX0_mixedWithAstronomers_40 : decode cX0_mixedWithAstronomers 40 = .ok (.iload 5, 2) := by decide +kernel
theorem dX0_mixedWithAstronomers_42 : decode cX0_mixedWithAstronomers 42 = .ok (.invokevirtual 232, 3) := by decide +kernel
theorem dX0_mixedWithAstronomers_45 : decode cX0_mixedWithAstronomers 45 = .ok (.i2l, 1) := by decide +kernel
theorem dX0_mixedWithAstronomers_46 : decode cX0_mixedWithAstronomers 46 = .ok (.invokestatic 148, 3) := by decide +kernel
theorem dX0_mixedWithAstronomers_49 : decode cX0_mixedWithAstronomers 49 = .ok (.lstore_n 3, 1) := by decide +kernel
theorem dX0_mixedWithAstronomers_50 : decode cX0_mixedWithAstronomers 50 = .ok (.iinc 5 1, 3) := by decide +kernel
theorem dX0_mixedWithAstronomers_53 : decode cX0_mixedWithAstronomers 53 = .ok (.goto (-48), 3) := by decide +kernel
theorem dX0_mixedWithAstronomers_56 : decode cX0_mixedWithAstronomers 56 = .ok (.lload_n 3, 1) := by decide +kernel
theorem dX0_mixedWithAstronomers_57 : decode cX0_mixedWithAstronomers 57 = .ok (.lreturn, 1) := by decide +kernel
end
section
theorem dX1_init_0 : decode cX1_init 0 = .ok (.aload_n 0, 1) := by decide +kernel
theorem dX1_init_1 : decode cX1_init 1 = .ok (.invokespecial 1, 3) := by decide +kernel
theorem dX1_init_4 : decode cX1_init 4 = .ok (.aload_n 0, 1) := by decide +kernel
theorem dX1_init_5 : decode cX1_init 5 = .ok (.bipush 40, 2) := by decide +kernel
theorem dX1_init_7 : decode cX1_init 7 = .ok (.newarray .int, 2) := by decide +kernel
theorem dX1_init_9 : decode cX1_init 9 = .ok (.putfield 9, 3) := by decide +kernel
theorem dX1_init_12 : decode cX1_init 12 = .ok (.aload_n 0, 1) := by decide +kernel
theorem dX1_init_13 : decode cX1_init 13 = .ok (.bipush 40, 2) := by decide +kernel
theorem dX1_init_15 : decode cX1_init 15 = .ok (.newarray .boolean, 2) := by decide +kernel
theorem dX1_init_17 : decode cX1_init 17 = .ok (.putfield 13, 3) := by decide +kernel
theorem dX1_init_20 : decode cX1_init 20 = .ok (.aload_n 0, 1) := by decide +kernel
theorem dX1_init_21 : decode cX1_init 21 = .ok (.bipush 8, 2) := by decide +kernel
theorem dX1_init_23 : decode cX1_init 23 = .ok (.newarray .int, 2) := by decide +kernel
theorem dX1_init_25 : decode cX1_init 25 = .ok (.putfield 17, 3) := by decide +kernel
theorem dX1_init_28 : decode cX1_init 28 = .ok (.aload_n 0, 1) := by decide +kernel
theorem dX1_init_29 : decode cX1_init 29 = .ok (.bipush 8, 2) := by decide +kernel
theorem dX1_init_31 : decode cX1_init 31 = .ok (.newarray .int, 2) := by decide +kernel
theorem dX1_init_33 : decode cX1_init 33 = .ok (.putfield 20, 3) := by decide +kernel
theorem dX1_init_36 : decode cX1_init 36 = .ok (.aload_n 0, 1) := by decide +kernel
theorem dX1_init_37 : decode cX1_init 37 = .ok (.bipush 8, 2) := by decide +kernel
theorem dX1_init_39 : decode cX1_init 39 = .ok (.newarray .int, 2) := by decide +kernel
theorem dX1_init_41 : decode cX1_init 41 = .ok (.putfield 23, 3) := by decide +kernel
theorem dX1_init_44 : decode cX1_init 44 = .ok (.return_, 1) := by decide +kernel
theorem dX1_thrown_0 : decode cX1_thrown 0 = .ok (.aload_n 0, 1) := by decide +kernel
theorem dX1_thrown_1 : decode cX1_thrown 1 = .ok (.getfield 26, 3) := by decide +kernel
theorem dX1_thrown_4 : decode cX1_thrown 4 = .ok (.ireturn, 1) := by decide +kernel
theorem dX1_no_0 : decode cX1_no 0 = .ok (.aload_n 0, 1) := by decide +kernel
theorem dX1_no_1 : decode cX1_no 1 = .ok (.iload_n 1, 1) := by decide +kernel
theorem dX1_no_2 : decode cX1_no 2 = .ok (.putfield 26, 3) := by decide +kernel
theorem dX1_no_5 : decode cX1_no 5 = .ok (.iconst 0, 1) := by decide +kernel
theorem dX1_no_6 : decode cX1_no 6 = .ok (.ireturn, 1) := by decide +kernel
theorem dX1_isNot_0 : decode cX1_isNot 0 = .ok (.aload_n 0, 1) := by decide +kernel
theorem dX1_isNot_1 : decode cX1_isNot 1 = .ok (.iload_n 1, 1) := by decide +kernel
theorem dX1_isNot_2 : decode cX1_isNot 2 = .ok (.putfield 26, 3) := by decide +kernel
theorem dX1_isNot_5 : decode cX1_isNot 5 = .ok (.iconst 0, 1) := by decide +kernel
theorem dX1_isNot_6 : decode cX1_isNot 6 = .ok (.ireturn, 1) := by decide +kernel
theorem dX1_ok_0 : decode cX1_ok 0 = .ok (.aload_n 0, 1) := by decide +kernel
theorem dX1_ok_1 : decode cX1_ok 1 = .ok (.iconst 0, 1) := by decide +kernel
theorem dX1_ok_2 : decode cX1_ok 2 = .ok (.putfield 26, 3) := by decide +kernel
theorem dX1_ok_5 : decode cX1_ok 5 = .ok (.iload_n 1, 1) := by decide +kernel
theorem dX1_ok_6 : decode cX1_ok 6 = .ok (.ireturn, 1) := by decide +kernel
theorem dX1_isIn_0 : decode cX1_isIn 0 = .ok (.iload_n 0, 1) := by decide +kernel
theorem dX1_isIn_1 : decode cX1_isIn 1 = .ok (.iload_n 1, 1) := by decide +kernel
theorem dX1_isIn_2 : decode cX1_isIn 2 = .ok (.if_icmp .lt 12, 3) := by decide +kernel
theorem dX1_isIn_5 : decode cX1_isIn 5 = .ok (.iload_n 0, 1) := by decide +kernel
theorem dX1_isIn_6 : decode cX1_isIn 6 = .ok (.iload_n 2, 1) := by decide +kernel
theorem dX1_isIn_7 : decode cX1_isIn 7 = .ok (.if_icmp .gt 7, 3) := by decide +kernel
theorem dX1_isIn_10 : decode cX1_isIn 10 = .ok (.iconst 1, 1) := by decide +kernel
theorem dX1_isIn_11 : decode cX1_isIn 11 = .ok (.goto 4, 3) := by decide +kernel
theorem dX1_isIn_14 : decode cX1_isIn 14 = .ok (.iconst 0, 1) := by decide +kernel
theorem dX1_isIn_15 : decode cX1_isIn 15 = .ok (.ireturn, 1) := by decide +kernel
theorem dX1_has_0 : decode cX1_has 0 = .ok (.iload_n 0, 1) := by decide +kernel
theorem dX1_has_1 : decode cX1_has 1 = .ok (.iload_n 1, 1) := by decide +kernel
theorem dX1_has_2 : decode cX1_has 2 = .ok (.ishr, 1) := by decide +kernel
theorem dX1_has_3 : decode cX1_has 3 = .ok (.iconst 1, 1) := by decide +kernel
theorem dX1_has_4 : decode cX1_has 4 = .ok (.iand, 1) := by decide +kernel
theorem dX1_has_5 : decode cX1_has 5 = .ok (.iconst 1, 1) := by decide +kernel
theorem dX1_has_6 : decode cX1_has 6 = .ok (.if_icmp .ne 7, 3) := by decide +kernel
theorem dX1_has_9 : decode cX1_has 9 = .ok (.iconst 1, 1) := by decide +kernel
theorem dX1_has_10 : decode cX1_has 10 = .ok (.goto 4, 3) := by decide +kernel
theorem dX1_has_13 : decode cX1_has 13 = .ok (.iconst 0, 1) := by decide +kernel
theorem dX1_has_14 : decode cX1_has 14 = .ok (.ireturn, 1) := by decide +kernel
theorem dX1_all_0 : decode cX1_all 0 = .ok (.iconst 1, 1) := by decide +kernel
theorem dX1_all_1 : decode cX1_all 1 = .ok (.aload_n 0, 1) := by decide +kernel
theorem dX1_all_2 : decode cX1_all 2 = .ok (.getfield 30, 3) := by decide +kernel
theorem dX1_all_5 : decode cX1_all 5 = .ok (.ishl, 1) := by decide +kernel
theorem dX1_all_6 : decode cX1_all 6 = .ok (.iconst 1, 1) := by decide +kernel
theorem dX1_all_7 : decode cX1_all 7 = .ok (.isub, 1) := by decide +kernel
theorem dX1_all_8 : decode cX1_all 8 = .ok (.ireturn, 1) := by decide +kernel
set_option maxRecDepth 20000 in
theorem ggX1_isThing_X1_isIn : GoodIn wsX1_isThing wsX1_isIn := goodIn_r _ [5] (by decide +kernel) (by decide +kernel)
set_option maxRecDepth 20000 in
theorem gX1_isThing_X1_isIn : GoodIn wsX1_isThing (va_wsS RX1 33 yX1_isIn wsX1_isIn) := goodIn_app (goodIn_of _ (by decide +kernel)) ggX1_isThing_X1_isIn
theorem dX1_isThing_0 : decode cX1_isThing 0 = .ok (.iload_n 1, 1) := by decide +kernel
theorem dX1_isThing_1 : decode cX1_isThing 1 = .ok (.iconst 0, 1) := by decide +kernel
theorem dX1_isThing_2 : decode cX1_isThing 2 = .ok (.aload_n 0, 1) := by decide +kernel
theorem dX1_isThing_3 : decode cX1_isThing 3 = .ok (.getfield 30, 3) := by decide +kernel
theorem dX1_isThing_6 : decode cX1_isThing 6 = .ok (.iconst 1, 1) := by decide +kernel
theorem dX1_isThing_7 : decode cX1_isThing 7 = .ok (.isub, 1) := by decide +kernel
theorem dX1_isThing_8 : decode cX1_isThing 8 = .ok (.invokestatic 33, 3) := by decide +kernel
theorem dX1_isThing_11 : decode cX1_isThing 11 = .ok (.ireturn, 1) := by decide +kernel
set_option maxRecDepth 20000 in
theorem ggX1_isNight_X1_isIn : GoodIn wsX1_isNight wsX1_isIn := goodIn_r _ [5] (by decide +kernel) (by decide +kernel)
set_option maxRecDepth 20000 in
theorem gX1_isNight_X1_isIn : GoodIn wsX1_isNight (va_wsS RX1 33 yX1_isIn wsX1_isIn) := goodIn_app (goodIn_of _ (by decide +kernel)) ggX1_isNight_X1_isIn
theorem dX1_isNight_0 : decode cX1_isNight 0 = .ok (.iload_n 1, 1) := by decide +kernel
theorem dX1_isNight_1 : decode cX1_isNight 1 = .ok (.iconst 0, 1) := by decide +kernel
theorem dX1_isNight_2 : decode cX1_isNight 2 = .ok (.aload_n 0, 1) := by decide +kernel
theorem dX1_isNight_3 : decode cX1_isNight 3 = .ok (.getfield 37, 3) := by decide +kernel
theorem dX1_isNight_6 : decode cX1_isNight 6 = .ok (.iconst 1, 1) := by decide +kernel
theorem dX1_isNight_7 : decode cX1_isNight 7 = .ok (.isub, 1) := by decide +kernel
theorem dX1_isNight_8 : decode cX1_isNight 8 = .ok (.invokestatic 33, 3) := by decide +kernel
theorem dX1_isNight_11 : decode cX1_isNight 11 = .ok (.ireturn, 1) := by decide +kernel
set_option maxRecDepth 20000 in
theorem ggX1_isAstronomer_X1_isIn : GoodIn wsX1_isAstronomer wsX1_isIn := goodIn_r _ [5] (by decide +kernel) (by decide +kernel)
set_option maxRecDepth 20000 in
theorem gX1_isAstronomer_X1_isIn : GoodIn wsX1_isAstronomer (va_wsS RX1 33 yX1_isIn wsX1_isIn) := goodIn_app (goodIn_of _ (by decide +kernel)) ggX1_isAstronomer_X1_isIn
theorem dX1_isAstronomer_0 : decode cX1_isAstronomer 0 = .ok (.iload_n 1, 1) := by decide +kernel
theorem dX1_isAstronomer_1 : decode cX1_isAstronomer 1 = .ok (.iconst 0, 1) := by decide +kernel
theorem dX1_isAstronomer_2 : decode cX1_isAstronomer 2 = .ok (.aload_n 0, 1) := by decide +kernel
theorem dX1_isAstronomer_3 : decode cX1_isAstronomer 3 = .ok (.getfield 40, 3) := by decide +kernel
theorem dX1_isAstronomer_6 : decode cX1_isAstronomer 6 = .ok (.iconst 1, 1) := by decide +kernel
theorem dX1_isAstronomer_7 : decode cX1_isAstronomer 7 = .ok (.isub, 1) := by decide +kernel
theorem dX1_isAstronomer_8 : decode cX1_isAstronomer 8 = .ok (.invokestatic 33, 3) := by decide +kernel
theorem dX1_isAstronomer_11 : decode cX1_isAstronomer 11 = .ok (.ireturn, 1) := by decide +kernel
theorem dX1_explains_0 : decode cX1_explains 0 = .ok (.iload_n 0, 1) := by decide +kernel
theorem dX1_explains_1 : decode cX1_explains 1 = .ok (.iload_n 1, 1) := by decide +kernel
theorem dX1_explains_2 : decode cX1_explains 2 = .ok (.iand, 1) := by decide +kernel
theorem dX1_explains_3 : decode cX1_explains 3 = .ok (.ifCond .eq 7, 3) := by decide +kernel
theorem dX1_explains_6 : decode cX1_explains 6 = .ok (.iconst 1, 1) := by decide +kernel
theorem dX1_explains_7 : decode cX1_explains 7 = .ok (.goto 4, 3) := by decide +kernel
theorem dX1_explains_10 : decode cX1_explains 10 = .ok (.iconst 0, 1) := by decide +kernel
theorem dX1_explains_11 : decode cX1_explains 11 = .ok (.iload_n 2, 1) := by decide +kernel
theorem dX1_explains_12 : decode cX1_explains 12 = .ok (.if_icmp .ne 7, 3) := by decide +kernel
theorem dX1_explains_15 : decode cX1_explains 15 = .ok (.iconst 1, 1) := by decide +kernel
theorem dX1_explains_16 : decode cX1_explains 16 = .ok (.goto 4, 3) := by decide +kernel
theorem dX1_explains_19 : decode cX1_explains 19 = .ok (.iconst 0, 1) := by decide +kernel
theorem dX1_explains_20 : decode cX1_explains 20 = .ok (.ireturn, 1) := by decide +kernel
set_option maxRecDepth 20000 in
theorem ggX1_unexplained_X1_explains : GoodIn wsX1_unexplained wsX1_explains := goodIn_r _ [7] (by decide +kernel) (by decide +kernel)
set_option maxRecDepth 20000 in
theorem gX1_unexplained_X1_explains : GoodIn wsX1_unexplained (va_wsS RX1 43 yX1_explains wsX1_explains) := goodIn_app (goodIn_of _ (by decide +kernel)) ggX1_unexplained_X1_explains
theorem dX1_unexplained_0 : decode cX1_unexplained 0 = .ok (.iconst 0, 1) := by decide +kernel
theorem dX1_unexplained_1 : decode cX1_unexplained 1 = .ok (.istore_n 2, 1) := by decide +kernel
theorem dX1_unexplained_2 : decode cX1_unexplained 2 = .ok (.iconst 0, 1) := by decide +kernel
theorem dX1_unexplained_3 : decode cX1_unexplained 3 = .ok (.istore_n 3, 1) := by decide +kernel
theorem dX1_unexplained_4 : decode cX1_unexplained 4 = .ok (.iload_n 3, 1) := by decide +kernel
theorem dX1_unexplained_5 : decode cX1_unexplained 5 = .ok (.aload_n 0, 1) := by decide +kernel
theorem dX1_unexplained_6 : decode cX1_unexplained 6 = .ok (.getfield 37, 3) := by decide +kernel
theorem dX1_unexplained_9 : decode cX1_unexplained 9 = .ok (.if_icmp .ge 36, 3) := by decide +kernel
theorem dX1_unexplained_12 : decode cX1_unexplained 12 = .ok (.iload_n 2, 1) := by decide +kernel
theorem dX1_unexplained_13 : decode cX1_unexplained 13 = .ok (.iload_n 1, 1) := by decide +kernel
theorem dX1_unexplained_14 : decode cX1_unexplained 14 = .ok (.aload_n 0, 1) := by decide +kernel
theorem dX1_unexplained_15 : decode cX1_unexplained 15 = .ok (.getfield 9, 3) := by decide +kernel
theorem dX1_unexplained_18 : decode cX1_unexplained 18 = .ok (.iload_n 3, 1) := by decide +kernel
theorem dX1_unexplained_19 : decode cX1_unexplained 19 = .ok (.iaload, 1) := by decide +kernel
theorem dX1_unexplained_20 : decode cX1_unexplained 20 = .ok (.aload_n 0, 1) := by decide +kernel
theorem dX1_unexplained_21 : decode cX1_unexplained 21 = .ok (.getfield 13, 3) := by decide +kernel
theorem dX1_unexplained_24 : decode cX1_unexplained 24 = .ok (.iload_n 3, 1) := by decide +kernel
theorem dX1_unexplained_25 : decode cX1_unexplained 25 = .ok (.baload, 1) := by decide +kernel
theorem dX1_unexplained_26 : decode cX1_unexplained 26 = .ok (.invokestatic 43, 3) := by decide +kernel
theorem dX1_unexplained_29 : decode cX1_unexplained 29 = .ok (.ifCond .eq 7, 3) := by decide +kernel
theorem dX1_unexplained_32 : decode cX1_unexplained 32 = .ok (.iconst 0, 1) := by decide +kernel
theorem dX1_unexplained_33 : decode cX1_unexplained 33 = .ok (.goto 4, 3) := by decide +kernel
theorem dX1_unexplained_36 : decode cX1_unexplained 36 = .ok (.iconst 1, 1) := by decide +kernel
theorem dX1_unexplained_37 : decode cX1_unexplained 37 = .ok (.iadd, 1) := by decide +kernel
theorem dX1_unexplained_38 : decode cX1_unexplained 38 = .ok (.istore_n 2, 1) := by decide +kernel
theorem dX1_unexplained_39 : decode cX1_unexplained 39 = .ok (.iinc 3 1, 3) := by decide +kernel
theorem dX1_unexplained_42 : decode cX1_unexplained 42 = .ok (.goto (-38), 3) := by decide +kernel
theorem dX1_unexplained_45 : decode cX1_unexplained 45 = .ok (.iload_n 2, 1) := by decide +kernel
theorem dX1_unexplained_46 : decode cX1_unexplained 46 = .ok (.ireturn, 1) := by decide +kernel
set_option maxRecDepth 20000 in
theorem ggX1_explaining_X1_all : GoodIn wsX1_explaining wsX1_all := goodIn_r _ [5, 6, 17, 18, 19, 20, 21, 22, 23, 24, 25, 26] (by decide +kernel) (by decide +kernel)
set_option maxRecDepth 20000 in
theorem gX1_explaining_X1_all : GoodIn wsX1_explaining (wsV RX1 47 RX1 yX1_all wsX1_all) := goodIn_app (goodIn_of _ (by decide +kernel)) ggX1_explaining_X1_all
set_option maxRecDepth 20000 in
theorem ggX1_explaining_X1_unexplained : GoodIn wsX1_explaining wsX1_unexplained := goodIn_r _ [10, 11, 12, 13, 14, 15, 4, 16, 17, 18, 19, 20, 21, 22, 23, 24, 25, 26] (by decide +kernel) (by decide +kernel)
set_option maxRecDepth 20000 in
theorem gX1_explaining_X1_unexplained : GoodIn wsX1_explaining (wsV RX1 51 RX1 yX1_unexplained wsX1_unexplained) := goodIn_app (goodIn_of _ (by decide +kernel)) ggX1_explaining_X1_unexplained
theorem dX1_explaining_0 : decode cX1_explaining 0 = .ok (.iconst 0, 1) := by decide +kernel
theorem dX1_explaining_1 : decode cX1_explaining 1 = .ok (.istore_n 1, 1) := by decide +kernel
theorem dX1_explaining_2 : decode cX1_explaining 2 = .ok (.iconst 0, 1) := by decide +kernel
theorem dX1_explaining_3 : decode cX1_explaining 3 = .ok (.istore_n 2, 1) := by decide +kernel
theorem dX1_explaining_4 : decode cX1_explaining 4 = .ok (.iload_n 2, 1) := by decide +kernel
theorem dX1_explaining_5 : decode cX1_explaining 5 = .ok (.aload_n 0, 1) := by decide +kernel
theorem dX1_explaining_6 : decode cX1_explaining 6 = .ok (.invokevirtual 47, 3) := by decide +kernel
theorem dX1_explaining_9 : decode cX1_explaining 9 = .ok (.if_icmp .gt 25, 3) := by decide +kernel
theorem dX1_explaining_12 : decode cX1_explaining 12 = .ok (.iload_n 1, 1) := by decide +kernel
theorem dX1_explaining_13 : decode cX1_explaining 13 = .ok (.aload_n 0, 1) := by decide +kernel
theorem dX1_explaining_14 : decode cX1_explaining 14 = .ok (.iload_n 2, 1) := by decide +kernel
theorem dX1_explaining_15 : decode cX1_explaining 15 = .ok (.invokevirtual 51, 3) := by decide +kernel
theorem dX1_explaining_18 : decode cX1_explaining 18 = .ok (.ifCond .ne 7, 3) := by decide +kernel
theorem dX1_explaining_21 : decode cX1_explaining 21 = .ok (.iconst 1, 1) := by decide +kernel
theorem dX1_explaining_22 : decode cX1_explaining 22 = .ok (.goto 4, 3) := by decide +kernel
theorem dX1_explaining_25 : decode cX1_explaining 25 = .ok (.iconst 0, 1) := by decide +kernel
theorem dX1_explaining_26 : decode cX1_explaining 26 = .ok (.iadd, 1) := by decide +kernel
theorem dX1_explaining_27 : decode cX1_explaining 27 = .ok (.istore_n 1, 1) := by decide +kernel
theorem dX1_explaining_28 : decode cX1_explaining 28 = .ok (.iinc 2 1, 3) := by decide +kernel
theorem dX1_explaining_31 : decode cX1_explaining 31 = .ok (.goto (-27), 3) := by decide +kernel
theorem dX1_explaining_34 : decode cX1_explaining 34 = .ok (.iload_n 1, 1) := by decide +kernel
theorem dX1_explaining_35 : decode cX1_explaining 35 = .ok (.ireturn, 1) := by decide +kernel
set_option maxRecDepth 20000 in
theorem ggX1_fewest_X1_all : GoodIn wsX1_fewest wsX1_all := goodIn_r _ [5, 6, 24, 25, 26, 27, 28, 29, 30, 31, 32, 33] (by decide +kernel) (by decide +kernel)
set_option maxRecDepth 20000 in
theorem gX1_fewest_X1_all : GoodIn wsX1_fewest (wsV RX1 47 RX1 yX1_all wsX1_all) := goodIn_app (goodIn_of _ (by decide +kernel)) ggX1_fewest_X1_all
set_option maxRecDepth 20000 in
theorem ggX1_fewest_X1_unexplained : GoodIn wsX1_fewest wsX1_unexplained := goodIn_r _ [10, 11, 12, 13, 14, 15, 4, 16, 24, 25, 26, 27, 28, 29, 30, 31, 32, 33] (by decide +kernel) (by decide +kernel)
set_option maxRecDepth 20000 in
theorem gX1_fewest_X1_unexplained : GoodIn wsX1_fewest (wsV RX1 51 RX1 yX1_unexplained wsX1_unexplained) := goodIn_app (goodIn_of _ (by decide +kernel)) ggX1_fewest_X1_unexplained
set_option maxRecDepth 20000 in
theorem ggX1_fewest_J6_bitCount_0f7a4 : GoodIn wsX1_fewest wsJ6_bitCount_0f7a4 := goodIn_r _ [20, 21, 22, 23] (by decide +kernel) (by decide +kernel)
set_option maxRecDepth 20000 in
theorem gX1_fewest_J6_bitCount_0f7a4 : GoodIn wsX1_fewest (va_wsS RX1 55 yJ6_bitCount_0f7a4 wsJ6_bitCount_0f7a4) := goodIn_app (goodIn_of _ (by decide +kernel)) ggX1_fewest_J6_bitCount_0f7a4
theorem dX1_fewest_0 : decode cX1_fewest 0 = .ok (.iconst (-1), 1) := by decide +kernel
theorem dX1_fewest_1 : decode cX1_fewest 1 = .ok (.istore_n 1, 1) := by decide +kernel
theorem dX1_fewest_2 : decode cX1_fewest 2 = .ok (.iconst 0, 1) := by decide +kernel
theorem dX1_fewest_3 : decode cX1_fewest 3 = .ok (.istore_n 2, 1) := by decide +kernel
theorem dX1_fewest_4 : decode cX1_fewest 4 = .ok (.iload_n 2, 1) := by decide +kernel
theorem dX1_fewest_5 : decode cX1_fewest 5 = .ok (.aload_n 0, 1) := by decide +kernel
theorem dX1_fewest_6 : decode cX1_fewest 6 = .ok (.invokevirtual 47, 3) := by decide +kernel
theorem dX1_fewest_9 : decode cX1_fewest 9 = .ok (.if_icmp .gt 35, 3) := by decide +kernel
theorem dX1_fewest_12 : decode cX1_fewest 12 = .ok (.aload_n 0, 1) := by decide +kernel
theorem dX1_fewest_13 : decode cX1_fewest 13 = .ok (.iload_n 2, 1) := by decide +kernel
theorem dX1_fewest_14 : decode cX1_fewest 14 = .ok (.invokevirtual 51, 3) := by decide +kernel
theorem dX1_fewest_17 : decode cX1_fewest 17 = .ok (.ifCond .ne 21, 3) := by decide +kernel
theorem dX1_fewest_20 : decode cX1_fewest 20 = .ok (.iload_n 1, 1) := by decide +kernel
theorem dX1_fewest_21 : decode cX1_fewest 21 = .ok (.iconst (-1), 1) := by decide +kernel
theorem dX1_fewest_22 : decode cX1_fewest 22 = .ok (.if_icmp .eq 14, 3) := by decide +kernel
theorem dX1_fewest_25 : decode cX1_fewest 25 = .ok (.iload_n 2, 1) := by decide +kernel
theorem dX1_fewest_26 : decode cX1_fewest 26 = .ok (.invokestatic 55, 3) := by decide +kernel
theorem dX1_fewest_29 : decode cX1_fewest 29 = .ok (.iload_n 1, 1) := by decide +kernel
theorem dX1_fewest_30 : decode cX1_fewest 30 = .ok (.invokestatic 55, 3) := by decide +kernel
theorem dX1_fewest_33 : decode cX1_fewest 33 = .ok (.if_icmp .ge 5, 3) := by decide +kernel
theorem dX1_fewest_36 : decode cX1_fewest 36 = .ok (.iload_n 2, 1) := by decide +kernel
theorem dX1_fewest_37 : decode cX1_fewest 37 = .ok (.istore_n 1, 1) := by decide +kernel
theorem dX1_fewest_38 : decode cX1_fewest 38 = .ok (.iinc 2 1, 3) := by decide +kernel
theorem dX1_fewest_41 : decode cX1_fewest 41 = .ok (.goto (-37), 3) := by decide +kernel
theorem dX1_fewest_44 : decode cX1_fewest 44 = .ok (.iload_n 1, 1) := by decide +kernel
theorem dX1_fewest_45 : decode cX1_fewest 45 = .ok (.ireturn, 1) := by decide +kernel
set_option maxRecDepth 20000 in
theorem ggX1_inAll_X1_all : GoodIn wsX1_inAll wsX1_all := goodIn_r _ [5, 6, 17, 18, 19, 20, 21, 22, 23, 24, 25, 26] (by decide +kernel) (by decide +kernel)
set_option maxRecDepth 20000 in
theorem gX1_inAll_X1_all : GoodIn wsX1_inAll (wsV RX1 47 RX1 yX1_all wsX1_all) := goodIn_app (goodIn_of _ (by decide +kernel)) ggX1_inAll_X1_all
set_option maxRecDepth 20000 in
theorem ggX1_inAll_X1_unexplained : GoodIn wsX1_inAll wsX1_unexplained := goodIn_r _ [10, 11, 12, 13, 14, 15, 4, 16, 17, 18, 19, 20, 21, 22, 23, 24, 25, 26] (by decide +kernel) (by decide +kernel)
set_option maxRecDepth 20000 in
theorem gX1_inAll_X1_unexplained : GoodIn wsX1_inAll (wsV RX1 51 RX1 yX1_unexplained wsX1_unexplained) := goodIn_app (goodIn_of _ (by decide +kernel)) ggX1_inAll_X1_unexplained
theorem dX1_inAll_0 : decode cX1_inAll 0 = .ok (.iconst (-1), 1) := by decide +kernel
theorem dX1_inAll_1 : decode cX1_inAll 1 = .ok (.istore_n 1, 1) := by decide +kernel
theorem dX1_inAll_2 : decode cX1_inAll 2 = .ok (.iconst 0, 1) := by decide +kernel
theorem dX1_inAll_3 : decode cX1_inAll 3 = .ok (.istore_n 2, 1) := by decide +kernel
theorem dX1_inAll_4 : decode cX1_inAll 4 = .ok (.iload_n 2, 1) := by decide +kernel
theorem dX1_inAll_5 : decode cX1_inAll 5 = .ok (.aload_n 0, 1) := by decide +kernel
theorem dX1_inAll_6 : decode cX1_inAll 6 = .ok (.invokevirtual 47, 3) := by decide +kernel
theorem dX1_inAll_9 : decode cX1_inAll 9 = .ok (.if_icmp .gt 30, 3) := by decide +kernel
theorem dX1_inAll_12 : decode cX1_inAll 12 = .ok (.aload_n 0, 1) := by decide +kernel
theorem dX1_inAll_13 : decode cX1_inAll 13 = .ok (.iload_n 2, 1) := by decide +kernel
theorem dX1_inAll_14 : decode cX1_inAll 14 = .ok (.invokevirtual 51, 3) := by decide +kernel
theorem dX1_inAll_17 : decode cX1_inAll 17 = .ok (.ifCond .ne 16, 3) := by decide +kernel
theorem dX1_inAll_20 : decode cX1_inAll 20 = .ok (.iload_n 1, 1) := by decide +kernel
theorem dX1_inAll_21 : decode cX1_inAll 21 = .ok (.iconst (-1), 1) := by decide +kernel
theorem dX1_inAll_22 : decode cX1_inAll 22 = .ok (.if_icmp .ne 7, 3) := by decide +kernel
theorem dX1_inAll_25 : decode cX1_inAll 25 = .ok (.iload_n 2, 1) := by decide +kernel
theorem dX1_inAll_26 : decode cX1_inAll 26 = .ok (.goto 6, 3) := by decide +kernel
theorem dX1_inAll_29 : decode cX1_inAll 29 = .ok (.iload_n 1, 1) := by decide +kernel
theorem dX1_inAll_30 : decode cX1_inAll 30 = .ok (.iload_n 2, 1) := by decide +kernel
theorem dX1_inAll_31 : decode cX1_inAll 31 = .ok (.iand, 1) := by decide +kernel
theorem dX1_inAll_32 : decode cX1_inAll 32 = .ok (.istore_n 1, 1) := by decide +kernel
theorem dX1_inAll_33 : decode cX1_inAll 33 = .ok (.iinc 2 1, 3) := by decide +kernel
theorem dX1_inAll_36 : decode cX1_inAll 36 = .ok (.goto (-32), 3) := by decide +kernel
theorem dX1_inAll_39 : decode cX1_inAll 39 = .ok (.iload_n 1, 1) := by decide +kernel
theorem dX1_inAll_40 : decode cX1_inAll 40 = .ok (.ireturn, 1) := by decide +kernel
set_option maxRecDepth 20000 in
theorem ggX1_withThing_X1_all : GoodIn wsX1_withThing wsX1_all := goodIn_r _ [5, 6, 20, 21, 22, 23, 24, 25, 26, 27, 28, 29] (by decide +kernel) (by decide +kernel)
set_option maxRecDepth 20000 in
theorem gX1_withThing_X1_all : GoodIn wsX1_withThing (wsV RX1 47 RX1 yX1_all wsX1_all) := goodIn_app (goodIn_of _ (by decide +kernel)) ggX1_withThing_X1_all
set_option maxRecDepth 20000 in
theorem ggX1_withThing_X1_has : GoodIn wsX1_withThing wsX1_has := goodIn_r _ [9] (by decide +kernel) (by decide +kernel)
set_option maxRecDepth 20000 in
theorem gX1_withThing_X1_has : GoodIn wsX1_withThing (va_wsS RX1 60 yX1_has wsX1_has) := goodIn_app (goodIn_of _ (by decide +kernel)) ggX1_withThing_X1_has
set_option maxRecDepth 20000 in
theorem ggX1_withThing_X1_unexplained : GoodIn wsX1_withThing wsX1_unexplained := goodIn_r _ [13, 14, 15, 16, 17, 18, 4, 19, 20, 21, 22, 23, 24, 25, 26, 27, 28, 29] (by decide +kernel) (by decide +kernel)
set_option maxRecDepth 20000 in
theorem gX1_withThing_X1_unexplained : GoodIn wsX1_withThing (wsV RX1 51 RX1 yX1_unexplained wsX1_unexplained) := goodIn_app (goodIn_of _ (by decide +kernel)) ggX1_withThing_X1_unexplained
theorem dX1_withThing_0 : decode cX1_withThing 0 = .ok (.iconst 0, 1) := by decide +kernel
theorem dX1_withThing_1 : decode cX1_withThing 1 = .ok (.istore_n 2, 1) := by decide +kernel
theorem dX1_withThing_2 : decode cX1_withThing 2 = .ok (.iconst 0, 1) := by decide +kernel
theorem dX1_withThing_3 : decode cX1_withThing 3 = .ok (.istore_n 3, 1) := by decide +kernel
theorem dX1_withThing_4 : decode cX1_withThing 4 = .ok (.iload_n 3, 1) := by decide +kernel
theorem dX1_withThing_5 : decode cX1_withThing 5 = .ok (.aload_n 0, 1) := by decide +kernel
theorem dX1_withThing_6 : decode cX1_withThing 6 = .ok (.invokevirtual 47, 3) := by decide +kernel
theorem dX1_withThing_9 : decode cX1_withThing 9 = .ok (.if_icmp .gt 33, 3) := by decide +kernel
theorem dX1_withThing_12 : decode cX1_withThing 12 = .ok (.iload_n 2, 1) := by decide +kernel
theorem dX1_withThing_13 : decode cX1_withThing 13 = .ok (.iload_n 3, 1) := by decide +kernel
theorem dX1_withThing_14 : decode cX1_withThing 14 = .ok (.iload_n 1, 1) := by decide +kernel
theorem dX1_withThing_15 : decode cX1_withThing 15 = .ok (.invokestatic 60, 3) := by decide +kernel
theorem dX1_withThing_18 : decode cX1_withThing 18 = .ok (.ifCond .eq 15, 3) := by decide +kernel
theorem dX1_withThing_21 : decode cX1_withThing 21 = .ok (.aload_n 0, 1) := by decide +kernel
theorem dX1_withThing_22 : decode cX1_withThing 22 = .ok (.iload_n 3, 1) := by decide +kernel
theorem dX1_withThing_23 : decode cX1_withThing 23 = .ok (.invokevirtual 51, 3) := by decide +kernel
theorem dX1_withThing_26 : decode cX1_withThing 26 = .ok (.ifCond .ne 7, 3) := by decide +kernel
theorem dX1_withThing_29 : decode cX1_withThing 29 = .ok (.iconst 1, 1) := by decide +kernel
theorem dX1_withThing_30 : decode cX1_withThing 30 = .ok (.goto 4, 3) := by decide +kernel
theorem dX1_withThing_33 : decode cX1_withThing 33 = .ok (.iconst 0, 1) := by decide +kernel
theorem dX1_withThing_34 : decode cX1_withThing 34 = .ok (.iadd, 1) := by decide +kernel
theorem dX1_withThing_35 : decode cX1_withThing 35 = .ok (.istore_n 2, 1) := by decide +kernel
theorem dX1_withThing_36 : decode cX1_withThing 36 = .ok (.iinc 3 1, 3) := by decide +kernel
theorem dX1_withThing_39 : decode cX1_withThing 39 = .ok (.goto (-35), 3) := by decide +kernel
theorem dX1_withThing_42 : decode cX1_withThing 42 = .ok (.iload_n 2, 1) := by decide +kernel
theorem dX1_withThing_43 : decode cX1_withThing 43 = .ok (.ireturn, 1) := by decide +kernel
set_option maxRecDepth 20000 in
theorem ggX1_meeting_X1_all : GoodIn wsX1_meeting wsX1_all := goodIn_r _ [5, 6, 17, 18, 19, 20, 21, 22, 23, 24, 25, 26] (by decide +kernel) (by decide +kernel)
set_option maxRecDepth 20000 in
theorem gX1_meeting_X1_all : GoodIn wsX1_meeting (wsV RX1 47 RX1 yX1_all wsX1_all) := goodIn_app (goodIn_of _ (by decide +kernel)) ggX1_meeting_X1_all
set_option maxRecDepth 20000 in
theorem ggX1_meeting_X1_unexplained : GoodIn wsX1_meeting wsX1_unexplained := goodIn_r _ [10, 11, 12, 13, 14, 15, 4, 16, 17, 18, 19, 20, 21, 22, 23, 24, 25, 26] (by decide +kernel) (by decide +kernel)
set_option maxRecDepth 20000 in
theorem gX1_meeting_X1_unexplained : GoodIn wsX1_meeting (wsV RX1 51 RX1 yX1_unexplained wsX1_unexplained) := goodIn_app (goodIn_of _ (by decide +kernel)) ggX1_meeting_X1_unexplained
theorem dX1_meeting_0 : decode cX1_meeting 0 = .ok (.iconst 0, 1) := by decide +kernel
theorem dX1_meeting_1 : decode cX1_meeting 1 = .ok (.istore_n 2, 1) := by decide +kernel
theorem dX1_meeting_2 : decode cX1_meeting 2 = .ok (.iconst 0, 1) := by decide +kernel
theorem dX1_meeting_3 : decode cX1_meeting 3 = .ok (.istore_n 3, 1) := by decide +kernel
theorem dX1_meeting_4 : decode cX1_meeting 4 = .ok (.iload_n 3, 1) := by decide +kernel
theorem dX1_meeting_5 : decode cX1_meeting 5 = .ok (.aload_n 0, 1) := by decide +kernel
theorem dX1_meeting_6 : decode cX1_meeting 6 = .ok (.invokevirtual 47, 3) := by decide +kernel
theorem dX1_meeting_9 : decode cX1_meeting 9 = .ok (.if_icmp .gt 31, 3) := by decide +kernel
theorem dX1_meeting_12 : decode cX1_meeting 12 = .ok (.iload_n 2, 1) := by decide +kernel
theorem dX1_meeting_13 : decode cX1_meeting 13 = .ok (.iload_n 3, 1) := by decide +kernel
theorem dX1_meeting_14 : decode cX1_meeting 14 = .ok (.iload_n 1, 1) := by decide +kernel
theorem dX1_meeting_15 : decode cX1_meeting 15 = .ok (.iand, 1) := by decide +kernel
theorem dX1_meeting_16 : decode cX1_meeting 16 = .ok (.ifCond .eq 15, 3) := by decide +kernel
theorem dX1_meeting_19 : decode cX1_meeting 19 = .ok (.aload_n 0, 1) := by decide +kernel
theorem dX1_meeting_20 : decode cX1_meeting 20 = .ok (.iload_n 3, 1) := by decide +kernel
theorem dX1_meeting_21 : decode cX1_meeting 21 = .ok (.invokevirtual 51, 3) := by decide +kernel
theorem dX1_meeting_24 : decode cX1_meeting 24 = .ok (.ifCond .ne 7, 3) := by decide +kernel
theorem dX1_meeting_27 : decode cX1_meeting 27 = .ok (.iconst 1, 1) := by decide +kernel
theorem dX1_meeting_28 : decode cX1_meeting 28 = .ok (.goto 4, 3) := by decide +kernel
theorem dX1_meeting_31 : decode cX1_meeting 31 = .ok (.iconst 0, 1) := by decide +kernel
theorem dX1_meeting_32 : decode cX1_meeting 32 = .ok (.iadd, 1) := by decide +kernel
theorem dX1_meeting_33 : decode cX1_meeting 33 = .ok (.istore_n 2, 1) := by decide +kernel
theorem dX1_meeting_34 : decode cX1_meeting 34 = .ok (.iinc 3 1, 3) := by decide +kernel
theorem dX1_meeting_37 : decode cX1_meeting 37 = .ok (.goto (-33), 3) := by decide +kernel
theorem dX1_meeting_40 : decode cX1_meeting 40 = .ok (.iload_n 2, 1) := by decide +kernel
theorem dX1_meeting_41 : decode cX1_meeting 41 = .ok (.ireturn, 1) := by decide +kernel
set_option maxRecDepth 20000 in
theorem ggX1_addThing_X1_no : GoodIn wsX1_addThing wsX1_no := goodIn_r _ [7, 1, 8, 9, 10, 11, 12, 13, 14, 15, 16, 17] (by decide +kernel) (by decide +kernel)
set_option maxRecDepth 20000 in
theorem gX1_addThing_X1_no : GoodIn wsX1_addThing (wsV RX1 64 RX1 yX1_no wsX1_no) := goodIn_app (goodIn_of _ (by decide +kernel)) ggX1_addThing_X1_no
theorem dX1_addThing_0 : decode cX1_addThing 0 = .ok (.aload_n 0, 1) := by decide +kernel
theorem dX1_addThing_1 : decode cX1_addThing 1 = .ok (.iconst 0, 1) := by decide +kernel
theorem dX1_addThing_2 : decode cX1_addThing 2 = .ok (.putfield 26, 3) := by decide +kernel
theorem dX1_addThing_5 : decode cX1_addThing 5 = .ok (.aload_n 0, 1) := by decide +kernel
theorem dX1_addThing_6 : decode cX1_addThing 6 = .ok (.getfield 30, 3) := by decide +kernel
theorem dX1_addThing_9 : decode cX1_addThing 9 = .ok (.bipush 8, 2) := by decide +kernel
theorem dX1_addThing_11 : decode cX1_addThing 11 = .ok (.if_icmp .ne 9, 3) := by decide +kernel
theorem dX1_addThing_14 : decode cX1_addThing 14 = .ok (.aload_n 0, 1) := by decide +kernel
theorem dX1_addThing_15 : decode cX1_addThing 15 = .ok (.iconst 1, 1) := by decide +kernel
theorem dX1_addThing_16 : decode cX1_addThing 16 = .ok (.invokevirtual 64, 3) := by decide +kernel
theorem dX1_addThing_19 : decode cX1_addThing 19 = .ok (.ireturn, 1) := by decide +kernel
theorem dX1_addThing_20 : decode cX1_addThing 20 = .ok (.aload_n 0, 1) := by decide +kernel
theorem dX1_addThing_21 : decode cX1_addThing 21 = .ok (.dup, 1) := by decide +kernel
theorem dX1_addThing_22 : decode cX1_addThing 22 = .ok (.getfield 30, 3) := by decide +kernel
theorem dX1_addThing_25 : decode cX1_addThing 25 = .ok (.iconst 1, 1) := by decide +kernel
theorem dX1_addThing_26 : decode cX1_addThing 26 = .ok (.iadd, 1) := by decide +kernel
theorem dX1_addThing_27 : decode cX1_addThing 27 = .ok (.putfield 30, 3) := by decide +kernel
theorem dX1_addThing_30 : decode cX1_addThing 30 = .ok (.aload_n 0, 1) := by decide +kernel
theorem dX1_addThing_31 : decode cX1_addThing 31 = .ok (.getfield 30, 3) := by decide +kernel
theorem dX1_addThing_34 : decode cX1_addThing 34 = .ok (.iconst 1, 1) := by decide +kernel
theorem dX1_addThing_35 : decode cX1_addThing 35 = .ok (.isub, 1) := by decide +kernel
theorem dX1_addThing_36 : decode cX1_addThing 36 = .ok (.ireturn, 1) := by decide +kernel
set_option maxRecDepth 20000 in
theorem ggX1_addAstronomer_X1_isIn : GoodIn wsX1_addAstronomer wsX1_isIn := goodIn_r _ [8] (by decide +kernel) (by decide +kernel)
set_option maxRecDepth 20000 in
theorem gX1_addAstronomer_X1_isIn : GoodIn wsX1_addAstronomer (va_wsS RX1 33 yX1_isIn wsX1_isIn) := goodIn_app (goodIn_of _ (by decide +kernel)) ggX1_addAstronomer_X1_isIn
set_option maxRecDepth 20000 in
theorem ggX1_addAstronomer_X1_no : GoodIn wsX1_addAstronomer wsX1_no := goodIn_r _ [12, 1, 13, 14, 15, 16, 17, 18, 19, 20, 21, 22] (by decide +kernel) (by decide +kernel)
set_option maxRecDepth 20000 in
theorem gX1_addAstronomer_X1_no : GoodIn wsX1_addAstronomer (wsV RX1 64 RX1 yX1_no wsX1_no) := goodIn_app (goodIn_of _ (by decide +kernel)) ggX1_addAstronomer_X1_no
theorem dX1_addAstronomer_0 : decode cX1_addAstronomer 0 = .ok (.aload_n 0, 1) := by decide +kernel
theorem dX1_addAstronomer_1 : decode cX1_addAstronomer 1 = .ok (.iconst 0, 1) := by decide +kernel
theorem dX1_addAstronomer_2 : decode cX1_addAstronomer 2 = .ok (.putfield 26, 3) := by decide +kernel
theorem dX1_addAstronomer_5 : decode cX1_addAstronomer 5 = .ok (.iload_n 1, 1) := by decide +kernel
theorem dX1_addAstronomer_6 : decode cX1_addAstronomer 6 = .ok (.iconst 0, 1) := by decide +kernel
theorem dX1_addAstronomer_7 : decode cX1_addAstronomer 7 = .ok (.iconst 5, 1) := by decide +kernel
theorem dX1_addAstronomer_8 : decode cX1_addAstronomer 8 = .ok (.invokestatic 33, 3) := by decide +kernel
theorem dX1_addAstronomer_11 : decode cX1_addAstronomer 11 = .ok (.ifCond .ne 9, 3) := by decide +kernel
theorem dX1_addAstronomer_14 : decode cX1_addAstronomer 14 = .ok (.aload_n 0, 1) := by decide +kernel
theorem dX1_addAstronomer_15 : decode cX1_addAstronomer 15 = .ok (.iconst 1, 1) := by decide +kernel
theorem dX1_addAstronomer_16 : decode cX1_addAstronomer 16 = .ok (.invokevirtual 64, 3) := by decide +kernel
theorem dX1_addAstronomer_19 : decode cX1_addAstronomer 19 = .ok (.ireturn, 1) := by decide +kernel
theorem dX1_addAstronomer_20 : decode cX1_addAstronomer 20 = .ok (.aload_n 0, 1) := by decide +kernel
theorem dX1_addAstronomer_21 : decode cX1_addAstronomer 21 = .ok (.getfield 40, 3) := by decide +kernel
theorem dX1_addAstronomer_24 : decode cX1_addAstronomer 24 = .ok (.bipush 8, 2) := by decide +kernel
theorem dX1_addAstronomer_26 : decode cX1_addAstronomer 26 = .ok (.if_icmp .ne 9, 3) := by decide +kernel
theorem dX1_addAstronomer_29 : decode cX1_addAstronomer 29 = .ok (.aload_n 0, 1) := by decide +kernel
theorem dX1_addAstronomer_30 : decode cX1_addAstronomer 30 = .ok (.iconst 2, 1) := by decide +kernel
theorem dX1_addAstronomer_31 : decode cX1_addAstronomer 31 = .ok (.invokevirtual 64, 3) := by decide +kernel
theorem dX1_addAstronomer_34 : decode cX1_addAstronomer 34 = .ok (.ireturn, 1) := by decide +kernel
theorem dX1_addAstronomer_35 : decode cX1_addAstronomer 35 = .ok (.aload_n 0, 1) := by decide +kernel
theorem dX1_addAstronomer_36 : decode cX1_addAstronomer 36 = .ok (.getfield 17, 3) := by decide +kernel
theorem dX1_addAstronomer_39 : decode cX1_addAstronomer 39 = .ok (.aload_n 0, 1) := by decide +kernel
theorem dX1_addAstronomer_40 : decode cX1_addAstronomer 40 = .ok (.getfield 40, 3) := by decide +kernel
theorem dX1_addAstronomer_43 : decode cX1_addAstronomer 43 = .ok (.iload_n 1, 1) := by decide +kernel
theorem dX1_addAstronomer_44 : decode cX1_addAstronomer 44 = .ok (.iastore, 1) := by decide +kernel
theorem dX1_addAstronomer_45 : decode cX1_addAstronomer 45 = .ok (.aload_n 0, 1) := by decide +kernel
theorem dX1_addAstronomer_46 : decode cX1_addAstronomer 46 = .ok (.getfield 20, 3) := by decide +kernel
theorem dX1_addAstronomer_49 : decode cX1_addAstronomer 49 = .ok (.aload_n 0, 1) := by decide +kernel
theorem dX1_addAstronomer_50 : decode cX1_addAstronomer 50 = .ok (.getfield 40, 3) := by decide +kernel
theorem dX1_addAstronomer_53 : decode cX1_addAstronomer 53 = .ok (.iload_n 1, 1) := by decide +kernel
theorem dX1_addAstronomer_54 : decode cX1_addAstronomer 54 = .ok (.iastore, 1) := by decide +kernel
theorem dX1_addAstronomer_55 : decode cX1_addAstronomer 55 = .ok (.aload_n 0, 1) := by decide +kernel
theorem dX1_addAstronomer_56 : decode cX1_addAstronomer 56 = .ok (.dup, 1) := by decide +kernel
theorem dX1_addAstronomer_57 : decode cX1_addAstronomer 57 = .ok (.getfield 40, 3) := by decide +kernel
theorem dX1_addAstronomer_60 : decode cX1_addAstronomer 60 = .ok (.iconst 1, 1) := by decide +kernel
theorem dX1_addAstronomer_61 : decode cX1_addAstronomer 61 = .ok (.iadd, 1) := by decide +kernel
theorem dX1_addAstronomer_62 : decode cX1_addAstronomer 62 = .ok (.putfield 40, 3) := by decide +kernel
theorem dX1_addAstronomer_65 : decode cX1_addAstronomer 65 = .ok (.aload_n 0, 1) := by decide +kernel
theorem dX1_addAstronomer_66 : decode cX1_addAstronomer 66 = .ok (.getfield 40, 3) := by decide +kernel
theorem dX1_addAstronomer_69 : decode cX1_addAstronomer 69 = .ok (.iconst 1, 1) := by decide +kernel
theorem dX1_addAstronomer_70 : decode cX1_addAstronomer 70 = .ok (.isub, 1) := by decide +kernel
theorem dX1_addAstronomer_71 : decode cX1_addAstronomer 71 = .ok (.ireturn, 1) := by decide +kernel
theorem dX1_think_0 : decode cX1_think 0 = .ok (.aload_n 0, 1) := by decide +kernel
theorem dX1_think_1 : decode cX1_think 1 = .ok (.getfield 23, 3) := by decide +kernel
theorem dX1_think_4 : decode cX1_think 4 = .ok (.iload_n 1, 1) := by decide +kernel
theorem dX1_think_5 : decode cX1_think 5 = .ok (.iload_n 2, 1) := by decide +kernel
theorem dX1_think_6 : decode cX1_think 6 = .ok (.iastore, 1) := by decide +kernel
theorem dX1_think_7 : decode cX1_think 7 = .ok (.aload_n 0, 1) := by decide +kernel
theorem dX1_think_8 : decode cX1_think 8 = .ok (.getfield 20, 3) := by decide +kernel
theorem dX1_think_11 : decode cX1_think 11 = .ok (.iload_n 1, 1) := by decide +kernel
theorem dX1_think_12 : decode cX1_think 12 = .ok (.aload_n 0, 1) := by decide +kernel
theorem dX1_think_13 : decode cX1_think 13 = .ok (.getfield 17, 3) := by decide +kernel
theorem dX1_think_16 : decode cX1_think 16 = .ok (.iload_n 1, 1) := by decide +kernel
theorem dX1_think_17 : decode cX1_think 17 = .ok (.iaload, 1) := by decide +kernel
theorem dX1_think_18 : decode cX1_think 18 = .ok (.iastore, 1) := by decide +kernel
theorem dX1_think_19 : decode cX1_think 19 = .ok (.return_, 1) := by decide +kernel
set_option maxRecDepth 20000 in
theorem ggX1_blame_X1_isAstronomer : GoodIn wsX1_blame wsX1_isAstronomer := goodIn_r _ [7, 8, 9, 10, 6, 11, 27, 28, 29, 30, 31, 32, 33, 34, 35, 36] (by decide +kernel) (by decide +kernel)
set_option maxRecDepth 20000 in
theorem gX1_blame_X1_isAstronomer : GoodIn wsX1_blame (wsV RX1 67 RX1 yX1_isAstronomer wsX1_isAstronomer) := goodIn_app (goodIn_of _ (by decide +kernel)) ggX1_blame_X1_isAstronomer
set_option maxRecDepth 20000 in
theorem ggX1_blame_X1_no : GoodIn wsX1_blame wsX1_no := goodIn_r _ [15, 1, 27, 28, 29, 30, 31, 32, 33, 34, 35, 36] (by decide +kernel) (by decide +kernel)
set_option maxRecDepth 20000 in
theorem gX1_blame_X1_no : GoodIn wsX1_blame (wsV RX1 64 RX1 yX1_no wsX1_no) := goodIn_app (goodIn_of _ (by decide +kernel)) ggX1_blame_X1_no
set_option maxRecDepth 20000 in
theorem ggX1_blame_X1_all : GoodIn wsX1_blame wsX1_all := goodIn_r _ [19, 20, 27, 28, 29, 30, 31, 32, 33, 34, 35, 36] (by decide +kernel) (by decide +kernel)
set_option maxRecDepth 20000 in
theorem gX1_blame_X1_all : GoodIn wsX1_blame (wsV RX1 47 RX1 yX1_all wsX1_all) := goodIn_app (goodIn_of _ (by decide +kernel)) ggX1_blame_X1_all
set_option maxRecDepth 20000 in
theorem ggX1_blame_X1_isIn : GoodIn wsX1_blame wsX1_isIn := goodIn_r _ [11] (by decide +kernel) (by decide +kernel)
set_option maxRecDepth 20000 in
theorem gX1_blame_X1_isIn : GoodIn wsX1_blame (va_wsS RX1 33 yX1_isIn wsX1_isIn) := goodIn_app (goodIn_of _ (by decide +kernel)) ggX1_blame_X1_isIn
set_option maxRecDepth 20000 in
theorem ggX1_blame_X1_think : GoodIn wsX1_blame wsX1_think := goodIn_r _ [24, 2, 25, 26, 27, 28, 29, 30, 31, 32, 33, 34, 35, 36] (by decide +kernel) (by decide +kernel)
set_option maxRecDepth 20000 in
theorem gX1_blame_X1_think : GoodIn wsX1_blame (wsV RX1 71 RX1 yX1_think wsX1_think) := goodIn_app (goodIn_of _ (by decide +kernel)) ggX1_blame_X1_think
theorem dX1_blame_0 : decode cX1_blame 0 = .ok (.aload_n 0, 1) := by decide +kernel
theorem dX1_blame_1 : decode cX1_blame 1 = .ok (.iconst 0, 1) := by decide +kernel
theorem dX1_blame_2 : decode cX1_blame 2 = .ok (.putfield 26, 3) := by decide +kernel
theorem dX1_blame_5 : decode cX1_blame 5 = .ok (.aload_n 0, 1) := by decide +kernel
theorem dX1_blame_6 : decode cX1_blame 6 = .ok (.iload_n 1, 1) := by decide +kernel
theorem dX1_blame_7 : decode cX1_blame 7 = .ok (.invokevirtual 67, 3) := by decide +kernel
theorem dX1_blame_10 : decode cX1_blame 10 = .ok (.ifCond .ne 9, 3) := by decide +kernel
theorem dX1_blame_13 : decode cX1_blame 13 = .ok (.aload_n 0, 1) := by decide +kernel
theorem dX1_blame_14 : decode cX1_blame 14 = .ok (.iconst 1, 1) := by decide +kernel
theorem dX1_blame_15 : decode cX1_blame 15 = .ok (.invokevirtual 64, 3) := by decide +kernel
theorem dX1_blame_18 : decode cX1_blame 18 = .ok (.ireturn, 1) := by decide +kernel
theorem dX1_blame_19 : decode cX1_blame 19 = .ok (.iload_n 2, 1) := by decide +kernel
theorem dX1_blame_20 : decode cX1_blame 20 = .ok (.iconst 0, 1) := by decide +kernel
theorem dX1_blame_21 : decode cX1_blame 21 = .ok (.aload_n 0, 1) := by decide +kernel
theorem dX1_blame_22 : decode cX1_blame 22 = .ok (.invokevirtual 47, 3) := by decide +kernel
theorem dX1_blame_25 : decode cX1_blame 25 = .ok (.invokestatic 33, 3) := by decide +kernel
theorem dX1_blame_28 : decode cX1_blame 28 = .ok (.ifCond .ne 9, 3) := by decide +kernel
theorem dX1_blame_31 : decode cX1_blame 31 = .ok (.aload_n 0, 1) := by decide +kernel
theorem dX1_blame_32 : decode cX1_blame 32 = .ok (.iconst 2, 1) := by decide +kernel
theorem dX1_blame_33 : decode cX1_blame 33 = .ok (.invokevirtual 64, 3) := by decide +kernel
theorem dX1_blame_36 : decode cX1_blame 36 = .ok (.ireturn, 1) := by decide +kernel
theorem dX1_blame_37 : decode cX1_blame 37 = .ok (.aload_n 0, 1) := by decide +kernel
theorem dX1_blame_38 : decode cX1_blame 38 = .ok (.getfield 23, 3) := by decide +kernel
theorem dX1_blame_41 : decode cX1_blame 41 = .ok (.iload_n 1, 1) := by decide +kernel
theorem dX1_blame_42 : decode cX1_blame 42 = .ok (.iaload, 1) := by decide +kernel
theorem dX1_blame_43 : decode cX1_blame 43 = .ok (.istore_n 3, 1) := by decide +kernel
theorem dX1_blame_44 : decode cX1_blame 44 = .ok (.aload_n 0, 1) := by decide +kernel
theorem dX1_blame_45 : decode cX1_blame 45 = .ok (.iload_n 1, 1) := by decide +kernel
theorem dX1_blame_46 : decode cX1_blame 46 = .ok (.iload_n 2, 1) := by decide +kernel
theorem dX1_blame_47 : decode cX1_blame 47 = .ok (.invokevirtual 71, 3) := by decide +kernel
theorem dX1_blame_50 : decode cX1_blame 50 = .ok (.iload_n 3, 1) := by decide +kernel
theorem dX1_blame_51 : decode cX1_blame 51 = .ok (.ireturn, 1) := by decide +kernel
theorem dX1_put_0 : decode cX1_put 0 = .ok (.aload_n 0, 1) := by decide +kernel
theorem dX1_put_1 : decode cX1_put 1 = .ok (.getfield 9, 3) := by decide +kernel
theorem dX1_put_4 : decode cX1_put 4 = .ok (.aload_n 0, 1) := by decide +kernel
theorem dX1_put_5 : decode cX1_put 5 = .ok (.getfield 37, 3) := by decide +kernel
theorem dX1_put_8 : decode cX1_put 8 = .ok (.iload_n 1, 1) := by decide +kernel
theorem dX1_put_9 : decode cX1_put 9 = .ok (.iastore, 1) := by decide +kernel
theorem dX1_put_10 : decode cX1_put 10 = .ok (.aload_n 0, 1) := by decide +kernel
theorem dX1_put_11 : decode cX1_put 11 = .ok (.getfield 13, 3) := by decide +kernel
theorem dX1_put_14 : decode cX1_put 14 = .ok (.aload_n 0, 1) := by decide +kernel
theorem dX1_put_15 : decode cX1_put 15 = .ok (.getfield 37, 3) := by decide +kernel
theorem dX1_put_18 : decode cX1_put 18 = .ok (.iload_n 2, 1) := by decide +kernel
theorem dX1_put_19 : decode cX1_put 19 = .ok (.bastore, 1) := by decide +kernel
theorem dX1_put_20 : decode cX1_put 20 = .ok (.aload_n 0, 1) := by decide +kernel
theorem dX1_put_21 : decode cX1_put 21 = .ok (.dup, 1) := by decide +kernel
theorem dX1_put_22 : decode cX1_put 22 = .ok (.getfield 37, 3) := by decide +kernel
theorem dX1_put_25 : decode cX1_put 25 = .ok (.iconst 1, 1) := by decide +kernel
theorem dX1_put_26 : decode cX1_put 26 = .ok (.iadd, 1) := by decide +kernel
theorem dX1_put_27 : decode cX1_put 27 = .ok (.putfield 37, 3) := by decide +kernel
theorem dX1_put_30 : decode cX1_put 30 = .ok (.return_, 1) := by decide +kernel
set_option maxRecDepth 20000 in
theorem ggX1_writeDown_X1_all : GoodIn wsX1_writeDown wsX1_all := goodIn_r _ [11, 12, 49, 50, 51, 52, 53, 54, 55, 56, 57, 58] (by decide +kernel) (by decide +kernel)
set_option maxRecDepth 20000 in
theorem gX1_writeDown_X1_all : GoodIn wsX1_writeDown (wsV RX1 47 RX1 yX1_all wsX1_all) := goodIn_app (goodIn_of _ (by decide +kernel)) ggX1_writeDown_X1_all
set_option maxRecDepth 20000 in
theorem ggX1_writeDown_X1_isIn : GoodIn wsX1_writeDown wsX1_isIn := goodIn_r _ [15] (by decide +kernel) (by decide +kernel)
set_option maxRecDepth 20000 in
theorem gX1_writeDown_X1_isIn : GoodIn wsX1_writeDown (va_wsS RX1 33 yX1_isIn wsX1_isIn) := goodIn_app (goodIn_of _ (by decide +kernel)) ggX1_writeDown_X1_isIn
set_option maxRecDepth 20000 in
theorem ggX1_writeDown_X1_no : GoodIn wsX1_writeDown wsX1_no := goodIn_r _ [19, 1, 49, 50, 51, 52, 53, 54, 55, 56, 57, 58] (by decide +kernel) (by decide +kernel)
set_option maxRecDepth 20000 in
theorem gX1_writeDown_X1_no : GoodIn wsX1_writeDown (wsV RX1 64 RX1 yX1_no wsX1_no) := goodIn_app (goodIn_of _ (by decide +kernel)) ggX1_writeDown_X1_no
set_option maxRecDepth 20000 in
theorem ggX1_writeDown_X1_put : GoodIn wsX1_writeDown wsX1_put := goodIn_r _ [23, 24, 2, 25, 49, 50, 51, 52, 53, 54, 55, 56, 57, 58] (by decide +kernel) (by decide +kernel)
set_option maxRecDepth 20000 in
theorem gX1_writeDown_X1_put : GoodIn wsX1_writeDown (wsV RX1 75 RX1 yX1_put wsX1_put) := goodIn_app (goodIn_of _ (by decide +kernel)) ggX1_writeDown_X1_put
set_option maxRecDepth 20000 in
theorem ggX1_writeDown_X1_fewest : GoodIn wsX1_writeDown wsX1_fewest := goodIn_r _ [29, 7, 8, 9, 10, 11, 12, 30, 31, 32, 33, 2, 24, 25, 34, 35, 36, 37, 38, 39, 40, 41, 42, 43, 49, 50, 51, 52, 53, 54, 55, 56, 57, 58] (by decide +kernel) (by decide +kernel)
set_option maxRecDepth 20000 in
theorem gX1_writeDown_X1_fewest : GoodIn wsX1_writeDown (wsV RX1 79 RX1 yX1_fewest wsX1_fewest) := goodIn_app (goodIn_of _ (by decide +kernel)) ggX1_writeDown_X1_fewest
set_option maxRecDepth 20000 in
theorem ggX1_writeDown_X1_explains : GoodIn wsX1_writeDown wsX1_explains := goodIn_r _ [36] (by decide +kernel) (by decide +kernel)
set_option maxRecDepth 20000 in
theorem gX1_writeDown_X1_explains : GoodIn wsX1_writeDown (va_wsS RX1 43 yX1_explains wsX1_explains) := goodIn_app (goodIn_of _ (by decide +kernel)) ggX1_writeDown_X1_explains
set_option maxRecDepth 20000 in
theorem ggX1_writeDown_X1_think : GoodIn wsX1_writeDown wsX1_think := goodIn_r _ [47, 4, 5, 48, 49, 50, 51, 52, 53, 54, 55, 56, 57, 58] (by decide +kernel) (by decide +kernel)
set_option maxRecDepth 20000 in
theorem gX1_writeDown_X1_think : GoodIn wsX1_writeDown (wsV RX1 71 RX1 yX1_think wsX1_think) := goodIn_app (goodIn_of _ (by decide +kernel)) ggX1_writeDown_X1_think
theorem dX1_writeDown_0 : decode cX1_writeDown 0 = .ok (.aload_n 0, 1) := by decide +kernel
theorem dX1_writeDown_1 : decode cX1_writeDown 1 = .ok (.iconst 0, 1) := by decide +kernel
theorem dX1_writeDown_2 : decode cX1_writeDown 2 = .ok (.putfield 26, 3) := by decide +kernel
theorem dX1_writeDown_5 : decode cX1_writeDown 5 = .ok (.iload_n 1, 1) := by decide +kernel
theorem dX1_writeDown_6 : decode cX1_writeDown 6 = .ok (.iconst 1, 1) := by decide +kernel
theorem dX1_writeDown_7 : decode cX1_writeDown 7 = .ok (.aload_n 0, 1) := by decide +kernel
theorem dX1_writeDown_8 : decode cX1_writeDown 8 = .ok (.invokevirtual 47, 3) := by decide +kernel
theorem dX1_writeDown_11 : decode cX1_writeDown 11 = .ok (.invokestatic 33, 3) := by decide +kernel
theorem dX1_writeDown_14 : decode cX1_writeDown 14 = .ok (.ifCond .ne 9, 3) := by decide +kernel
theorem dX1_writeDown_17 : decode cX1_writeDown 17 = .ok (.aload_n 0, 1) := by decide +kernel
theorem dX1_writeDown_18 : decode cX1_writeDown 18 = .ok (.iconst 1, 1) := by decide +kernel
theorem dX1_writeDown_19 : decode cX1_writeDown 19 = .ok (.invokevirtual 64, 3) := by decide +kernel
theorem dX1_writeDown_22 : decode cX1_writeDown 22 = .ok (.ireturn, 1) := by decide +kernel
theorem dX1_writeDown_23 : decode cX1_writeDown 23 = .ok (.aload_n 0, 1) := by decide +kernel
theorem dX1_writeDown_24 : decode cX1_writeDown 24 = .ok (.getfield 37, 3) := by decide +kernel
theorem dX1_writeDown_27 : decode cX1_writeDown 27 = .ok (.bipush 40, 2) := by decide +kernel
theorem dX1_writeDown_29 : decode cX1_writeDown 29 = .ok (.if_icmp .ne 9, 3) := by decide +kernel
theorem dX1_writeDown_32 : decode cX1_writeDown 32 = .ok (.aload_n 0, 1) := by decide +kernel
theorem dX1_writeDown_33 : decode cX1_writeDown 33 = .ok (.iconst 2, 1) := by decide +kernel
theorem dX1_writeDown_34 : decode cX1_writeDown 34 = .ok (.invokevirtual 64, 3) := by decide +kernel
theorem dX1_writeDown_37 : decode cX1_writeDown 37 = .ok (.ireturn, 1) := by decide +kernel
theorem dX1_writeDown_38 : decode cX1_writeDown 38 = .ok (.aload_n 0, 1) := by decide +kernel
theorem dX1_writeDown_39 : decode cX1_writeDown 39 = .ok (.iload_n 1, 1) := by decide +kernel
theorem dX1_writeDown_40 : decode cX1_writeDown 40 = .ok (.iload_n 2, 1) := by decide +kernel
theorem dX1_writeDown_41 : decode cX1_writeDown 41 = .ok (.invokevirtual 75, 3) := by decide +kernel
theorem dX1_writeDown_44 : decode cX1_writeDown 44 = .ok (.aload_n 0, 1) := by decide +kernel
theorem dX1_writeDown_45 : decode cX1_writeDown 45 = .ok (.invokevirtual 79, 3) := by decide +kernel
theorem dX1_writeDown_48 : decode cX1_writeDown 48 = .ok (.istore_n 3, 1) := by decide +kernel
theorem dX1_writeDown_49 : decode cX1_writeDown 49 = .ok (.iconst 0, 1) := by decide +kernel
theorem dX1_writeDown_50 : decode cX1_writeDown 50 = .ok (.istore 4, 2) := by decide +kernel
theorem dX1_writeDown_52 : decode cX1_writeDown 52 = .ok (.iconst 0, 1) := by decide +kernel
theorem dX1_writeDown_53 : decode cX1_writeDown 53 = .ok (.istore 5, 2) := by decide +kernel
theorem dX1_writeDown_55 : decode cX1_writeDown 55 = .ok (.iload 5, 2) := by decide +kernel
theorem dX1_writeDown_57 : decode cX1_writeDown 57 = .ok (.aload_n 0, 1) := by decide +kernel
theorem dX1_writeDown_58 : decode cX1_writeDown 58 = .ok (.getfield 40, 3) := by decide +kernel
theorem dX1_writeDown_61 : decode cX1_writeDown 61 = .ok (.if_icmp .ge 66, 3) := by decide +kernel
theorem dX1_writeDown_64 : decode cX1_writeDown 64 = .ok (.aload_n 0, 1) := by decide +kernel
theorem dX1_writeDown_65 : decode cX1_writeDown 65 = .ok (.getfield 23, 3) := by decide +kernel
theorem dX1_writeDown_68 : decode cX1_writeDown 68 = .ok (.iload 5, 2) := by decide +kernel
theorem dX1_writeDown_70 : decode cX1_writeDown 70 = .ok (.iaload, 1) := by decide +kernel
theorem dX1_writeDown_71 : decode cX1_writeDown 71 = .ok (.iload_n 1, 1) := by decide +kernel
theorem dX1_writeDown_72 : decode cX1_writeDown 72 = .ok (.iload_n 2, 1) := by decide +kernel
theorem dX1_writeDown_73 : decode cX1_writeDown 73 = .ok (.invokestatic 43, 3) := by decide +kernel
theorem dX1_writeDown_76 : decode cX1_writeDown 76 = .ok (.ifCond .eq 6, 3) := by decide +kernel
theorem dX1_writeDown_79 : decode cX1_writeDown 79 = .ok (.goto 42, 3) := by decide +kernel
theorem dX1_writeDown_82 : decode cX1_writeDown 82 = .ok (.aload_n 0, 1) := by decide +kernel
theorem dX1_writeDown_83 : decode cX1_writeDown 83 = .ok (.getfield 20, 3) := by decide +kernel
theorem dX1_writeDown_86 : decode cX1_writeDown 86 = .ok (.iload 5, 2) := by decide +kernel
theorem dX1_writeDown_88 : decode cX1_writeDown 88 = .ok (.iaload, 1) := by decide +kernel
theorem dX1_writeDown_89 : decode cX1_writeDown 89 = .ok (.ifCond .le 17, 3) := by decide +kernel
theorem dX1_writeDown_92 : decode cX1_writeDown 92 = .ok (.aload_n 0, 1) := by decide +kernel
theorem dX1_writeDown_93 : decode cX1_writeDown 93 = .ok (.getfield 20, 3) := by decide +kernel
theorem dX1_writeDown_96 : decode cX1_writeDown 96 = .ok (.iload 5, 2) := by decide +kernel
theorem dX1_writeDown_98 : decode cX1_writeDown 98 = .ok (.dup2, 1) := by decide +kernel
theorem dX1_writeDown_99 : decode cX1_writeDown 99 = .ok (.iaload, 1) := by decide +kernel
theorem dX1_writeDown_100 : decode cX1_writeDown 100 = .ok (.iconst 1, 1) := by decide +kernel
theorem dX1_writeDown_101 : decode cX1_writeDown 101 = .ok (.isub, 1) := by decide +kernel
theorem dX1_writeDown_102 : decode cX1_writeDown 102 = .ok (.iastore, 1) := by decide +kernel
theorem dX1_writeDown_103 : decode cX1_writeDown 103 = .ok (.goto 18, 3) := by decide +kernel
theorem dX1_writeDown_106 : decode cX1_writeDown 106 = .ok (.iload_n 3, 1) := by decide +kernel
theorem dX1_writeDown_107 : decode cX1_writeDown 107 = .ok (.iconst (-1), 1) := by decide +kernel
theorem dX1_writeDown_108 : decode cX1_writeDown 108 = .ok (.if_icmp .eq 13, 3) := by decide +kernel
theorem dX1_writeDown_111 : decode cX1_writeDown 111 = .ok (.aload_n 0, 1) := by decide +kernel
theorem dX1_writeDown_112 : decode cX1_writeDown 112 = .ok (.iload 5, 2) := by decide +kernel
theorem dX1_writeDown_114 : decode cX1_writeDown 114 = .ok (.iload_n 3, 1) := by decide +kernel
theorem dX1_writeDown_115 : decode cX1_writeDown 115 = .ok (.invokevirtual 71, 3) := by decide +kernel
theorem dX1_writeDown_118 : decode cX1_writeDown 118 = .ok (.iinc 4 1, 3) := by decide +kernel
theorem dX1_writeDown_121 : decode cX1_writeDown 121 = .ok (.iinc 5 1, 3) := by decide +kernel
theorem dX1_writeDown_124 : decode cX1_writeDown 124 = .ok (.goto (-69), 3) := by decide +kernel
theorem dX1_writeDown_127 : decode cX1_writeDown 127 = .ok (.aload_n 0, 1) := by decide +kernel
theorem dX1_writeDown_128 : decode cX1_writeDown 128 = .ok (.dup, 1) := by decide +kernel
theorem dX1_writeDown_129 : decode cX1_writeDown 129 = .ok (.getfield 82, 3) := by decide +kernel
theorem dX1_writeDown_132 : decode cX1_writeDown 132 = .ok (.iload 4, 2) := by decide +kernel
theorem dX1_writeDown_134 : decode cX1_writeDown 134 = .ok (.iadd, 1) := by decide +kernel
theorem dX1_writeDown_135 : decode cX1_writeDown 135 = .ok (.putfield 82, 3) := by decide +kernel
theorem dX1_writeDown_138 : decode cX1_writeDown 138 = .ok (.iload 4, 2) := by decide +kernel
theorem dX1_writeDown_140 : decode cX1_writeDown 140 = .ok (.ireturn, 1) := by decide +kernel
set_option maxRecDepth 20000 in
theorem ggX1_strike_X1_isNight : GoodIn wsX1_strike wsX1_isNight := goodIn_r _ [9, 2, 10, 11, 8, 12, 17, 18, 19, 20, 21, 22, 23, 24, 25, 26] (by decide +kernel) (by decide +kernel)
set_option maxRecDepth 20000 in
theorem gX1_strike_X1_isNight : GoodIn wsX1_strike (wsV RX1 85 RX1 yX1_isNight wsX1_isNight) := goodIn_app (goodIn_of _ (by decide +kernel)) ggX1_strike_X1_isNight
set_option maxRecDepth 20000 in
theorem ggX1_strike_X1_no : GoodIn wsX1_strike wsX1_no := goodIn_r _ [16, 1, 17, 18, 19, 20, 21, 22, 23, 24, 25, 26] (by decide +kernel) (by decide +kernel)
set_option maxRecDepth 20000 in
theorem gX1_strike_X1_no : GoodIn wsX1_strike (wsV RX1 64 RX1 yX1_no wsX1_no) := goodIn_app (goodIn_of _ (by decide +kernel)) ggX1_strike_X1_no
theorem dX1_strike_0 : decode cX1_strike 0 = .ok (.aload_n 0, 1) := by decide +kernel
theorem dX1_strike_1 : decode cX1_strike 1 = .ok (.iconst 0, 1) := by decide +kernel
theorem dX1_strike_2 : decode cX1_strike 2 = .ok (.putfield 26, 3) := by decide +kernel
theorem dX1_strike_5 : decode cX1_strike 5 = .ok (.aload_n 0, 1) := by decide +kernel
theorem dX1_strike_6 : decode cX1_strike 6 = .ok (.iload_n 1, 1) := by decide +kernel
theorem dX1_strike_7 : decode cX1_strike 7 = .ok (.invokevirtual 85, 3) := by decide +kernel
theorem dX1_strike_10 : decode cX1_strike 10 = .ok (.ifCond .ne 9, 3) := by decide +kernel
theorem dX1_strike_13 : decode cX1_strike 13 = .ok (.aload_n 0, 1) := by decide +kernel
theorem dX1_strike_14 : decode cX1_strike 14 = .ok (.iconst 1, 1) := by decide +kernel
theorem dX1_strike_15 : decode cX1_strike 15 = .ok (.invokevirtual 64, 3) := by decide +kernel
theorem dX1_strike_18 : decode cX1_strike 18 = .ok (.ireturn, 1) := by decide +kernel
theorem dX1_strike_19 : decode cX1_strike 19 = .ok (.iload_n 1, 1) := by decide +kernel
theorem dX1_strike_20 : decode cX1_strike 20 = .ok (.istore_n 2, 1) := by decide +kernel
theorem dX1_strike_21 : decode cX1_strike 21 = .ok (.iload_n 2, 1) := by decide +kernel
theorem dX1_strike_22 : decode cX1_strike 22 = .ok (.iconst 1, 1) := by decide +kernel
theorem dX1_strike_23 : decode cX1_strike 23 = .ok (.iadd, 1) := by decide +kernel
theorem dX1_strike_24 : decode cX1_strike 24 = .ok (.aload_n 0, 1) := by decide +kernel
theorem dX1_strike_25 : decode cX1_strike 25 = .ok (.getfield 37, 3) := by decide +kernel
theorem dX1_strike_28 : decode cX1_strike 28 = .ok (.if_icmp .ge 37, 3) := by decide +kernel
theorem dX1_strike_31 : decode cX1_strike 31 = .ok (.aload_n 0, 1) := by decide +kernel
theorem dX1_strike_32 : decode cX1_strike 32 = .ok (.getfield 9, 3) := by decide +kernel
theorem dX1_strike_35 : decode cX1_strike 35 = .ok (.iload_n 2, 1) := by decide +kernel
theorem dX1_strike_36 : decode cX1_strike 36 = .ok (.aload_n 0, 1) := by decide +kernel
theorem dX1_strike_37 : decode cX1_strike 37 = .ok (.getfield 9, 3) := by decide +kernel
theorem dX1_strike_40 : decode cX1_strike 40 = .ok (.iload_n 2, 1) := by decide +kernel
theorem dX1_strike_41 : decode cX1_strike 41 = .ok (.iconst 1, 1) := by decide +kernel
theorem dX1_strike_42 : decode cX1_strike 42 = .ok (.iadd, 1) := by decide +kernel
theorem dX1_strike_43 : decode cX1_strike 43 = .ok (.iaload, 1) := by decide +kernel
theorem dX1_strike_44 : decode cX1_strike 44 = .ok (.iastore, 1) := by decide +kernel
theorem dX1_strike_45 : decode cX1_strike 45 = .ok (.aload_n 0, 1) := by decide +kernel
theorem dX1_strike_46 : decode cX1_strike 46 = .ok (.getfield 13, 3) := by decide +kernel
theorem dX1_strike_49 : decode cX1_strike 49 = .ok (.iload_n 2, 1) := by decide +kernel
theorem dX1_strike_50 : decode cX1_strike 50 = .ok (.aload_n 0, 1) := by decide +kernel
theorem dX1_strike_51 : decode cX1_strike 51 = .ok (.getfield 13, 3) := by decide +kernel
theorem dX1_strike_54 : decode cX1_strike 54 = .ok (.iload_n 2, 1) := by decide +kernel
theorem dX1_strike_55 : decode cX1_strike 55 = .ok (.iconst 1, 1) := by decide +kernel
theorem dX1_strike_56 : decode cX1_strike 56 = .ok (.iadd, 1) := by decide +kernel
theorem dX1_strike_57 : decode cX1_strike 57 = .ok (.baload, 1) := by decide +kernel
theorem dX1_strike_58 : decode cX1_strike 58 = .ok (.bastore, 1) := by decide +kernel
theorem dX1_strike_59 : decode cX1_strike 59 = .ok (.iinc 2 1, 3) := by decide +kernel
theorem dX1_strike_62 : decode cX1_strike 62 = .ok (.goto (-41), 3) := by decide +kernel
theorem dX1_strike_65 : decode cX1_strike 65 = .ok (.aload_n 0, 1) := by decide +kernel
theorem dX1_strike_66 : decode cX1_strike 66 = .ok (.dup, 1) := by decide +kernel
theorem dX1_strike_67 : decode cX1_strike 67 = .ok (.getfield 37, 3) := by decide +kernel
theorem dX1_strike_70 : decode cX1_strike 70 = .ok (.iconst 1, 1) := by decide +kernel
theorem dX1_strike_71 : decode cX1_strike 71 = .ok (.isub, 1) := by decide +kernel
theorem dX1_strike_72 : decode cX1_strike 72 = .ok (.putfield 37, 3) := by decide +kernel
theorem dX1_strike_75 : decode cX1_strike 75 = .ok (.aload_n 0, 1) := by decide +kernel
theorem dX1_strike_76 : decode cX1_strike 76 = .ok (.getfield 37, 3) := by decide +kernel
theorem dX1_strike_79 : decode cX1_strike 79 = .ok (.ireturn, 1) := by decide +kernel
set_option maxRecDepth 20000 in
theorem ggX1_things_X1_ok : GoodIn wsX1_things wsX1_ok := goodIn_r _ [6, 7, 8, 9, 10, 11, 12, 13, 14, 15, 16, 17] (by decide +kernel) (by decide +kernel)
set_option maxRecDepth 20000 in
theorem gX1_things_X1_ok : GoodIn wsX1_things (wsV RX1 88 RX1 yX1_ok wsX1_ok) := goodIn_app (goodIn_of _ (by decide +kernel)) ggX1_things_X1_ok
theorem dX1_things_0 : decode cX1_things 0 = .ok (.aload_n 0, 1) := by decide +kernel
theorem dX1_things_1 : decode cX1_things 1 = .ok (.aload_n 0, 1) := by decide +kernel
theorem dX1_things_2 : decode cX1_things 2 = .ok (.getfield 30, 3) := by decide +kernel
theorem dX1_things_5 : decode cX1_things 5 = .ok (.invokevirtual 88, 3) := by decide +kernel
theorem dX1_things_8 : decode cX1_things 8 = .ok (.ireturn, 1) := by decide +kernel
set_option maxRecDepth 20000 in
theorem ggX1_nightsOf_X1_has : GoodIn wsX1_nightsOf wsX1_has := goodIn_r _ [7] (by decide +kernel) (by decide +kernel)
set_option maxRecDepth 20000 in
theorem gX1_nightsOf_X1_has : GoodIn wsX1_nightsOf (va_wsS RX1 60 yX1_has wsX1_has) := goodIn_app (goodIn_of _ (by decide +kernel)) ggX1_nightsOf_X1_has
theorem dX1_nightsOf_0 : decode cX1_nightsOf 0 = .ok (.iconst 0, 1) := by decide +kernel
theorem dX1_nightsOf_1 : decode cX1_nightsOf 1 = .ok (.istore_n 3, 1) := by decide +kernel
theorem dX1_nightsOf_2 : decode cX1_nightsOf 2 = .ok (.iconst 0, 1) := by decide +kernel
theorem dX1_nightsOf_3 : decode cX1_nightsOf 3 = .ok (.istore 4, 2) := by decide +kernel
theorem dX1_nightsOf_5 : decode cX1_nightsOf 5 = .ok (.iload 4, 2) := by decide +kernel
theorem dX1_nightsOf_7 : decode cX1_nightsOf 7 = .ok (.aload_n 0, 1) := by decide +kernel
theorem dX1_nightsOf_8 : decode cX1_nightsOf 8 = .ok (.getfield 37, 3) := by decide +kernel
theorem dX1_nightsOf_11 : decode cX1_nightsOf 11 = .ok (.if_icmp .ge 45, 3) := by decide +kernel
theorem dX1_nightsOf_14 : decode cX1_nightsOf 14 = .ok (.iload_n 3, 1) := by decide +kernel
theorem dX1_nightsOf_15 : decode cX1_nightsOf 15 = .ok (.aload_n 0, 1) := by decide +kernel
theorem dX1_nightsOf_16 : decode cX1_nightsOf 16 = .ok (.getfield 9, 3) := by decide +kernel
theorem dX1_nightsOf_19 : decode cX1_nightsOf 19 = .ok (.iload 4, 2) := by decide +kernel
theorem dX1_nightsOf_21 : decode cX1_nightsOf 21 = .ok (.iaload, 1) := by decide +kernel
theorem dX1_nightsOf_22 : decode cX1_nightsOf 22 = .ok (.iload_n 1, 1) := by decide +kernel
theorem dX1_nightsOf_23 : decode cX1_nightsOf 23 = .ok (.invokestatic 60, 3) := by decide +kernel
theorem dX1_nightsOf_26 : decode cX1_nightsOf 26 = .ok (.ifCond .eq 21, 3) := by decide +kernel
theorem dX1_nightsOf_29 : decode cX1_nightsOf 29 = .ok (.aload_n 0, 1) := by decide +kernel
theorem dX1_nightsOf_30 : decode cX1_nightsOf 30 = .ok (.getfield 13, 3) := by decide +kernel
theorem dX1_nightsOf_33 : decode cX1_nightsOf 33 = .ok (.iload 4, 2) := by decide +kernel
theorem dX1_nightsOf_35 : decode cX1_nightsOf 35 = .ok (.baload, 1) := by decide +kernel
theorem dX1_nightsOf_36 : decode cX1_nightsOf 36 = .ok (.ifCond .ne 7, 3) := by decide +kernel
theorem dX1_nightsOf_39 : decode cX1_nightsOf 39 = .ok (.iload_n 2, 1) := by decide +kernel
theorem dX1_nightsOf_40 : decode cX1_nightsOf 40 = .ok (.ifCond .ne 7, 3) := by decide +kernel
theorem dX1_nightsOf_43 : decode cX1_nightsOf 43 = .ok (.iconst 1, 1) := by decide +kernel
theorem dX1_nightsOf_44 : decode cX1_nightsOf 44 = .ok (.goto 4, 3) := by decide +kernel
theorem dX1_nightsOf_47 : decode cX1_nightsOf 47 = .ok (.iconst 0, 1) := by decide +kernel
theorem dX1_nightsOf_48 : decode cX1_nightsOf 48 = .ok (.iadd, 1) := by decide +kernel
theorem dX1_nightsOf_49 : decode cX1_nightsOf 49 = .ok (.istore_n 3, 1) := by decide +kernel
theorem dX1_nightsOf_50 : decode cX1_nightsOf 50 = .ok (.iinc 4 1, 3) := by decide +kernel
theorem dX1_nightsOf_53 : decode cX1_nightsOf 53 = .ok (.goto (-48), 3) := by decide +kernel
theorem dX1_nightsOf_56 : decode cX1_nightsOf 56 = .ok (.iload_n 3, 1) := by decide +kernel
theorem dX1_nightsOf_57 : decode cX1_nightsOf 57 = .ok (.ireturn, 1) := by decide +kernel
set_option maxRecDepth 20000 in
theorem ggX1_nightsWith_X1_isThing : GoodIn wsX1_nightsWith wsX1_isThing := goodIn_r _ [6, 7, 8, 9, 5, 10, 25, 26, 27, 28, 29, 30, 31, 32, 33, 34] (by decide +kernel) (by decide +kernel)
set_option maxRecDepth 20000 in
theorem gX1_nightsWith_X1_isThing : GoodIn wsX1_nightsWith (wsV RX1 91 RX1 yX1_isThing wsX1_isThing) := goodIn_app (goodIn_of _ (by decide +kernel)) ggX1_nightsWith_X1_isThing
set_option maxRecDepth 20000 in
theorem ggX1_nightsWith_X1_nightsOf : GoodIn wsX1_nightsWith wsX1_nightsOf := goodIn_r _ [14, 15, 16, 17, 18, 19, 5, 20, 25, 26, 27, 28, 29, 30, 31, 32, 33, 34] (by decide +kernel) (by decide +kernel)
set_option maxRecDepth 20000 in
theorem gX1_nightsWith_X1_nightsOf : GoodIn wsX1_nightsWith (wsV RX1 94 RX1 yX1_nightsOf wsX1_nightsOf) := goodIn_app (goodIn_of _ (by decide +kernel)) ggX1_nightsWith_X1_nightsOf
set_option maxRecDepth 20000 in
theorem ggX1_nightsWith_X1_no : GoodIn wsX1_nightsWith wsX1_no := goodIn_r _ [24, 1, 25, 26, 27, 28, 29, 30, 31, 32, 33, 34] (by decide +kernel) (by decide +kernel)
set_option maxRecDepth 20000 in
theorem gX1_nightsWith_X1_no : GoodIn wsX1_nightsWith (wsV RX1 64 RX1 yX1_no wsX1_no) := goodIn_app (goodIn_of _ (by decide +kernel)) ggX1_nightsWith_X1_no
theorem dX1_nightsWith_0 : decode cX1_nightsWith 0 = .ok (.aload_n 0, 1) := by decide +kernel
theorem dX1_nightsWith_1 : decode cX1_nightsWith 1 = .ok (.iconst 0, 1) := by decide +kernel
theorem dX1_nightsWith_2 : decode cX1_nightsWith 2 = .ok (.putfield 26, 3) := by decide +kernel
theorem dX1_nightsWith_5 : decode cX1_nightsWith 5 = .ok (.aload_n 0, 1) := by decide +kernel
theorem dX1_nightsWith_6 : decode cX1_nightsWith 6 = .ok (.iload_n 1, 1) := by decide +kernel
theorem dX1_nightsWith_7 : decode cX1_nightsWith 7 = .ok (.invokevirtual 91, 3) := by decide +kernel
theorem dX1_nightsWith_10 : decode cX1_nightsWith 10 = .ok (.ifCond .eq 12, 3) := by decide +kernel
theorem dX1_nightsWith_13 : decode cX1_nightsWith 13 = .ok (.aload_n 0, 1) := by decide +kernel
theorem dX1_nightsWith_14 : decode cX1_nightsWith 14 = .ok (.iload_n 1, 1) := by decide +kernel
theorem dX1_nightsWith_15 : decode cX1_nightsWith 15 = .ok (.iconst 0, 1) := by decide +kernel
theorem dX1_nightsWith_16 : decode cX1_nightsWith 16 = .ok (.invokevirtual 94, 3) := by decide +kernel
theorem dX1_nightsWith_19 : decode cX1_nightsWith 19 = .ok (.goto 8, 3) := by decide +kernel
theorem dX1_nightsWith_22 : decode cX1_nightsWith 22 = .ok (.aload_n 0, 1) := by decide +kernel
theorem dX1_nightsWith_23 : decode cX1_nightsWith 23 = .ok (.iconst 1, 1) := by decide +kernel
theorem dX1_nightsWith_24 : decode cX1_nightsWith 24 = .ok (.invokevirtual 64, 3) := by decide +kernel
theorem dX1_nightsWith_27 : decode cX1_nightsWith 27 = .ok (.ireturn, 1) := by decide +kernel
set_option maxRecDepth 20000 in
theorem ggX1_smudgesWith_X1_isThing : GoodIn wsX1_smudgesWith wsX1_isThing := goodIn_r _ [6, 7, 8, 9, 5, 10, 25, 26, 27, 28, 29, 30, 31, 32, 33, 34] (by decide +kernel) (by decide +kernel)
set_option maxRecDepth 20000 in
theorem gX1_smudgesWith_X1_isThing : GoodIn wsX1_smudgesWith (wsV RX1 91 RX1 yX1_isThing wsX1_isThing) := goodIn_app (goodIn_of _ (by decide +kernel)) ggX1_smudgesWith_X1_isThing
set_option maxRecDepth 20000 in
theorem ggX1_smudgesWith_X1_nightsOf : GoodIn wsX1_smudgesWith wsX1_nightsOf := goodIn_r _ [14, 15, 16, 17, 18, 19, 5, 20, 25, 26, 27, 28, 29, 30, 31, 32, 33, 34] (by decide +kernel) (by decide +kernel)
set_option maxRecDepth 20000 in
theorem gX1_smudgesWith_X1_nightsOf : GoodIn wsX1_smudgesWith (wsV RX1 94 RX1 yX1_nightsOf wsX1_nightsOf) := goodIn_app (goodIn_of _ (by decide +kernel)) ggX1_smudgesWith_X1_nightsOf
set_option maxRecDepth 20000 in
theorem ggX1_smudgesWith_X1_no : GoodIn wsX1_smudgesWith wsX1_no := goodIn_r _ [24, 1, 25, 26, 27, 28, 29, 30, 31, 32, 33, 34] (by decide +kernel) (by decide +kernel)
set_option maxRecDepth 20000 in
theorem gX1_smudgesWith_X1_no : GoodIn wsX1_smudgesWith (wsV RX1 64 RX1 yX1_no wsX1_no) := goodIn_app (goodIn_of _ (by decide +kernel)) ggX1_smudgesWith_X1_no
theorem dX1_smudgesWith_0 : decode cX1_smudgesWith 0 = .ok (.aload_n 0, 1) := by decide +kernel
theorem dX1_smudgesWith_1 : decode cX1_smudgesWith 1 = .ok (.iconst 0, 1) := by decide +kernel
theorem dX1_smudgesWith_2 : decode cX1_smudgesWith 2 = .ok (.putfield 26, 3) := by decide +kernel
theorem dX1_smudgesWith_5 : decode cX1_smudgesWith 5 = .ok (.aload_n 0, 1) := by decide +kernel
theorem dX1_smudgesWith_6 : decode cX1_smudgesWith 6 = .ok (.iload_n 1, 1) := by decide +kernel
theorem dX1_smudgesWith_7 : decode cX1_smudgesWith 7 = .ok (.invokevirtual 91, 3) := by decide +kernel
theorem dX1_smudgesWith_10 : decode cX1_smudgesWith 10 = .ok (.ifCond .eq 12, 3) := by decide +kernel
theorem dX1_smudgesWith_13 : decode cX1_smudgesWith 13 = .ok (.aload_n 0, 1) := by decide +kernel
theorem dX1_smudgesWith_14 : decode cX1_smudgesWith 14 = .ok (.iload_n 1, 1) := by decide +kernel
theorem dX1_smudgesWith_15 : decode cX1_smudgesWith 15 = .ok (.iconst 1, 1) := by decide +kernel
theorem dX1_smudgesWith_16 : decode cX1_smudgesWith 16 = .ok (.invokevirtual 94, 3) := by decide +kernel
theorem dX1_smudgesWith_19 : decode cX1_smudgesWith 19 = .ok (.goto 8, 3) := by decide +kernel
theorem dX1_smudgesWith_22 : decode cX1_smudgesWith 22 = .ok (.aload_n 0, 1) := by decide +kernel
theorem dX1_smudgesWith_23 : decode cX1_smudgesWith 23 = .ok (.iconst 1, 1) := by decide +kernel
theorem dX1_smudgesWith_24 : decode cX1_smudgesWith 24 = .ok (.invokevirtual 64, 3) := by decide +kernel
theorem dX1_smudgesWith_27 : decode cX1_smudgesWith 27 = .ok (.ireturn, 1) := by decide +kernel
theorem dX1_cleared_0 : decode cX1_cleared 0 = .ok (.iconst 0, 1) := by decide +kernel
theorem dX1_cleared_1 : decode cX1_cleared 1 = .ok (.istore_n 1, 1) := by decide +kernel
theorem dX1_cleared_2 : decode cX1_cleared 2 = .ok (.iconst 0, 1) := by decide +kernel
theorem dX1_cleared_3 : decode cX1_cleared 3 = .ok (.istore_n 2, 1) := by decide +kernel
theorem dX1_cleared_4 : decode cX1_cleared 4 = .ok (.iload_n 2, 1) := by decide +kernel
theorem dX1_cleared_5 : decode cX1_cleared 5 = .ok (.aload_n 0, 1) := by decide +kernel
theorem dX1_cleared_6 : decode cX1_cleared 6 = .ok (.getfield 37, 3) := by decide +kernel
theorem dX1_cleared_9 : decode cX1_cleared 9 = .ok (.if_icmp .ge 27, 3) := by decide +kernel
theorem dX1_cleared_12 : decode cX1_cleared 12 = .ok (.aload_n 0, 1) := by decide +kernel
theorem dX1_cleared_13 : decode cX1_cleared 13 = .ok (.getfield 13, 3) := by decide +kernel
theorem dX1_cleared_16 : decode cX1_cleared 16 = .ok (.iload_n 2, 1) := by decide +kernel
theorem dX1_cleared_17 : decode cX1_cleared 17 = .ok (.baload, 1) := by decide +kernel
theorem dX1_cleared_18 : decode cX1_cleared 18 = .ok (.ifCond .ne 12, 3) := by decide +kernel
theorem dX1_cleared_21 : decode cX1_cleared 21 = .ok (.iload_n 1, 1) := by decide +kernel
theorem dX1_cleared_22 : decode cX1_cleared 22 = .ok (.aload_n 0, 1) := by decide +kernel
theorem dX1_cleared_23 : decode cX1_cleared 23 = .ok (.getfield 9, 3) := by decide +kernel
theorem dX1_cleared_26 : decode cX1_cleared 26 = .ok (.iload_n 2, 1) := by decide +kernel
theorem dX1_cleared_27 : decode cX1_cleared 27 = .ok (.iaload, 1) := by decide +kernel
theorem dX1_cleared_28 : decode cX1_cleared 28 = .ok (.ior, 1) := by decide +kernel
theorem dX1_cleared_29 : decode cX1_cleared 29 = .ok (.istore_n 1, 1) := by decide +kernel
theorem dX1_cleared_30 : decode cX1_cleared 30 = .ok (.iinc 2 1, 3) := by decide +kernel
theorem dX1_cleared_33 : decode cX1_cleared 33 = .ok (.goto (-29), 3) := by decide +kernel
theorem dX1_cleared_36 : decode cX1_cleared 36 = .ok (.iload_n 1, 1) := by decide +kernel
theorem dX1_cleared_37 : decode cX1_cleared 37 = .ok (.ireturn, 1) := by decide +kernel
set_option maxRecDepth 20000 in
theorem ggX1_proved_X1_cleared : GoodIn wsX1_proved wsX1_cleared := goodIn_r _ [8, 1, 2, 3, 12, 13, 14, 15, 16, 17, 18, 19, 20, 21] (by decide +kernel) (by decide +kernel)
set_option maxRecDepth 20000 in
theorem gX1_proved_X1_cleared : GoodIn wsX1_proved (wsV RX1 98 RX1 yX1_cleared wsX1_cleared) := goodIn_app (goodIn_of _ (by decide +kernel)) ggX1_proved_X1_cleared
set_option maxRecDepth 20000 in
theorem ggX1_proved_X1_has : GoodIn wsX1_proved wsX1_has := goodIn_r _ [11] (by decide +kernel) (by decide +kernel)
set_option maxRecDepth 20000 in
theorem gX1_proved_X1_has : GoodIn wsX1_proved (va_wsS RX1 60 yX1_has wsX1_has) := goodIn_app (goodIn_of _ (by decide +kernel)) ggX1_proved_X1_has
theorem dX1_proved_0 : decode cX1_proved 0 = .ok (.aload_n 0, 1) := by decide +kernel
theorem dX1_proved_1 : decode cX1_proved 1 = .ok (.invokevirtual 98, 3) := by decide +kernel
theorem dX1_proved_4 : decode cX1_proved 4 = .ok (.iconst (-1), 1) := by decide +kernel
theorem dX1_proved_5 : decode cX1_proved 5 = .ok (.ixor, 1) := by decide +kernel
theorem dX1_proved_6 : decode cX1_proved 6 = .ok (.iconst 1, 1) := by decide +kernel
theorem dX1_proved_7 : decode cX1_proved 7 = .ok (.iload_n 1, 1) := by decide +kernel
theorem dX1_proved_8 : decode cX1_proved 8 = .ok (.ishl, 1) := by decide +kernel
theorem dX1_proved_9 : decode cX1_proved 9 = .ok (.iconst (-1), 1) := by decide +kernel
theorem dX1_proved_10 : decode cX1_proved 10 = .ok (.ixor, 1) := by decide +kernel
theorem dX1_proved_11 : decode cX1_proved 11 = .ok (.iand, 1) := by decide +kernel
theorem dX1_proved_12 : decode cX1_proved 12 = .ok (.istore_n 2, 1) := by decide +kernel
theorem dX1_proved_13 : decode cX1_proved 13 = .ok (.iconst 0, 1) := by decide +kernel
theorem dX1_proved_14 : decode cX1_proved 14 = .ok (.istore_n 3, 1) := by decide +kernel
theorem dX1_proved_15 : decode cX1_proved 15 = .ok (.iload_n 3, 1) := by decide +kernel
theorem dX1_proved_16 : decode cX1_proved 16 = .ok (.aload_n 0, 1) := by decide +kernel
theorem dX1_proved_17 : decode cX1_proved 17 = .ok (.getfield 37, 3) := by decide +kernel
theorem dX1_proved_20 : decode cX1_proved 20 = .ok (.if_icmp .ge 44, 3) := by decide +kernel
theorem dX1_proved_23 : decode cX1_proved 23 = .ok (.aload_n 0, 1) := by decide +kernel
theorem dX1_proved_24 : decode cX1_proved 24 = .ok (.getfield 13, 3) := by decide +kernel
theorem dX1_proved_27 : decode cX1_proved 27 = .ok (.iload_n 3, 1) := by decide +kernel
theorem dX1_proved_28 : decode cX1_proved 28 = .ok (.baload, 1) := by decide +kernel
theorem dX1_proved_29 : decode cX1_proved 29 = .ok (.ifCond .eq 29, 3) := by decide +kernel
theorem dX1_proved_32 : decode cX1_proved 32 = .ok (.aload_n 0, 1) := by decide +kernel
theorem dX1_proved_33 : decode cX1_proved 33 = .ok (.getfield 9, 3) := by decide +kernel
theorem dX1_proved_36 : decode cX1_proved 36 = .ok (.iload_n 3, 1) := by decide +kernel
theorem dX1_proved_37 : decode cX1_proved 37 = .ok (.iaload, 1) := by decide +kernel
theorem dX1_proved_38 : decode cX1_proved 38 = .ok (.iload_n 1, 1) := by decide +kernel
theorem dX1_proved_39 : decode cX1_proved 39 = .ok (.invokestatic 60, 3) := by decide +kernel
theorem dX1_proved_42 : decode cX1_proved 42 = .ok (.ifCond .eq 16, 3) := by decide +kernel
theorem dX1_proved_45 : decode cX1_proved 45 = .ok (.aload_n 0, 1) := by decide +kernel
theorem dX1_proved_46 : decode cX1_proved 46 = .ok (.getfield 9, 3) := by decide +kernel
theorem dX1_proved_49 : decode cX1_proved 49 = .ok (.iload_n 3, 1) := by decide +kernel
theorem dX1_proved_50 : decode cX1_proved 50 = .ok (.iaload, 1) := by decide +kernel
theorem dX1_proved_51 : decode cX1_proved 51 = .ok (.iload_n 2, 1) := by decide +kernel
theorem dX1_proved_52 : decode cX1_proved 52 = .ok (.iand, 1) := by decide +kernel
theorem dX1_proved_53 : decode cX1_proved 53 = .ok (.ifCond .ne 5, 3) := by decide +kernel
theorem dX1_proved_56 : decode cX1_proved 56 = .ok (.iconst 1, 1) := by decide +kernel
theorem dX1_proved_57 : decode cX1_proved 57 = .ok (.ireturn, 1) := by decide +kernel
theorem dX1_proved_58 : decode cX1_proved 58 = .ok (.iinc 3 1, 3) := by decide +kernel
theorem dX1_proved_61 : decode cX1_proved 61 = .ok (.goto (-46), 3) := by decide +kernel
theorem dX1_proved_64 : decode cX1_proved 64 = .ok (.iconst 0, 1) := by decide +kernel
theorem dX1_proved_65 : decode cX1_proved 65 = .ok (.ireturn, 1) := by decide +kernel
set_option maxRecDepth 20000 in
theorem ggX1_isCleared_X1_isThing : GoodIn wsX1_isCleared wsX1_isThing := goodIn_r _ [6, 7, 8, 9, 5, 10, 25, 26, 27, 28, 29, 30, 31, 32, 33, 34] (by decide +kernel) (by decide +kernel)
set_option maxRecDepth 20000 in
theorem gX1_isCleared_X1_isThing : GoodIn wsX1_isCleared (wsV RX1 91 RX1 yX1_isThing wsX1_isThing) := goodIn_app (goodIn_of _ (by decide +kernel)) ggX1_isCleared_X1_isThing
set_option maxRecDepth 20000 in
theorem ggX1_isCleared_X1_cleared : GoodIn wsX1_isCleared wsX1_cleared := goodIn_r _ [14, 15, 16, 17, 25, 26, 27, 28, 29, 30, 31, 32, 33, 34] (by decide +kernel) (by decide +kernel)
set_option maxRecDepth 20000 in
theorem gX1_isCleared_X1_cleared : GoodIn wsX1_isCleared (wsV RX1 98 RX1 yX1_cleared wsX1_cleared) := goodIn_app (goodIn_of _ (by decide +kernel)) ggX1_isCleared_X1_cleared
set_option maxRecDepth 20000 in
theorem ggX1_isCleared_X1_has : GoodIn wsX1_isCleared wsX1_has := goodIn_r _ [20] (by decide +kernel) (by decide +kernel)
set_option maxRecDepth 20000 in
theorem gX1_isCleared_X1_has : GoodIn wsX1_isCleared (va_wsS RX1 60 yX1_has wsX1_has) := goodIn_app (goodIn_of _ (by decide +kernel)) ggX1_isCleared_X1_has
set_option maxRecDepth 20000 in
theorem ggX1_isCleared_X1_isNot : GoodIn wsX1_isCleared wsX1_isNot := goodIn_r _ [24, 1, 25, 26, 27, 28, 29, 30, 31, 32, 33, 34] (by decide +kernel) (by decide +kernel)
set_option maxRecDepth 20000 in
theorem gX1_isCleared_X1_isNot : GoodIn wsX1_isCleared (wsV RX1 101 RX1 yX1_isNot wsX1_isNot) := goodIn_app (goodIn_of _ (by decide +kernel)) ggX1_isCleared_X1_isNot
theorem dX1_isCleared_0 : decode cX1_isCleared 0 = .ok (.aload_n 0, 1) := by decide +kernel
theorem dX1_isCleared_1 : decode cX1_isCleared 1 = .ok (.iconst 0, 1) := by decide +kernel
theorem dX1_isCleared_2 : decode cX1_isCleared 2 = .ok (.putfield 26, 3) := by decide +kernel
theorem dX1_isCleared_5 : decode cX1_isCleared 5 = .ok (.aload_n 0, 1) := by decide +kernel
theorem dX1_isCleared_6 : decode cX1_isCleared 6 = .ok (.iload_n 1, 1) := by decide +kernel
theorem dX1_isCleared_7 : decode cX1_isCleared 7 = .ok (.invokevirtual 91, 3) := by decide +kernel
theorem dX1_isCleared_10 : decode cX1_isCleared 10 = .ok (.ifCond .eq 14, 3) := by decide +kernel
theorem dX1_isCleared_13 : decode cX1_isCleared 13 = .ok (.aload_n 0, 1) := by decide +kernel
theorem dX1_isCleared_14 : decode cX1_isCleared 14 = .ok (.invokevirtual 98, 3) := by decide +kernel
theorem dX1_isCleared_17 : decode cX1_isCleared 17 = .ok (.iload_n 1, 1) := by decide +kernel
theorem dX1_isCleared_18 : decode cX1_isCleared 18 = .ok (.invokestatic 60, 3) := by decide +kernel
theorem dX1_isCleared_21 : decode cX1_isCleared 21 = .ok (.goto 8, 3) := by decide +kernel
theorem dX1_isCleared_24 : decode cX1_isCleared 24 = .ok (.aload_n 0, 1) := by decide +kernel
theorem dX1_isCleared_25 : decode cX1_isCleared 25 = .ok (.iconst 1, 1) := by decide +kernel
theorem dX1_isCleared_26 : decode cX1_isCleared 26 = .ok (.invokevirtual 101, 3) := by decide +kernel
theorem dX1_isCleared_29 : decode cX1_isCleared 29 = .ok (.ireturn, 1) := by decide +kernel
set_option maxRecDepth 20000 in
theorem ggX1_isProved_X1_isThing : GoodIn wsX1_isProved wsX1_isThing := goodIn_r _ [6, 7, 8, 9, 5, 10, 29, 30, 31, 32, 33, 34, 35, 36, 37, 38] (by decide +kernel) (by decide +kernel)
set_option maxRecDepth 20000 in
theorem gX1_isProved_X1_isThing : GoodIn wsX1_isProved (wsV RX1 91 RX1 yX1_isThing wsX1_isThing) := goodIn_app (goodIn_of _ (by decide +kernel)) ggX1_isProved_X1_isThing
set_option maxRecDepth 20000 in
theorem ggX1_isProved_X1_proved : GoodIn wsX1_isProved wsX1_proved := goodIn_r _ [14, 15, 16, 17, 18, 19, 20, 5, 21, 22, 23, 24, 29, 30, 31, 32, 33, 34, 35, 36, 37, 38] (by decide +kernel) (by decide +kernel)
set_option maxRecDepth 20000 in
theorem gX1_isProved_X1_proved : GoodIn wsX1_isProved (wsV RX1 104 RX1 yX1_proved wsX1_proved) := goodIn_app (goodIn_of _ (by decide +kernel)) ggX1_isProved_X1_proved
set_option maxRecDepth 20000 in
theorem ggX1_isProved_X1_isNot : GoodIn wsX1_isProved wsX1_isNot := goodIn_r _ [28, 1, 29, 30, 31, 32, 33, 34, 35, 36, 37, 38] (by decide +kernel) (by decide +kernel)
set_option maxRecDepth 20000 in
theorem gX1_isProved_X1_isNot : GoodIn wsX1_isProved (wsV RX1 101 RX1 yX1_isNot wsX1_isNot) := goodIn_app (goodIn_of _ (by decide +kernel)) ggX1_isProved_X1_isNot
theorem dX1_isProved_0 : decode cX1_isProved 0 = .ok (.aload_n 0, 1) := by decide +kernel
theorem dX1_isProved_1 : decode cX1_isProved 1 = .ok (.iconst 0, 1) := by decide +kernel
theorem dX1_isProved_2 : decode cX1_isProved 2 = .ok (.putfield 26, 3) := by decide +kernel
theorem dX1_isProved_5 : decode cX1_isProved 5 = .ok (.aload_n 0, 1) := by decide +kernel
theorem dX1_isProved_6 : decode cX1_isProved 6 = .ok (.iload_n 1, 1) := by decide +kernel
theorem dX1_isProved_7 : decode cX1_isProved 7 = .ok (.invokevirtual 91, 3) := by decide +kernel
theorem dX1_isProved_10 : decode cX1_isProved 10 = .ok (.ifCond .eq 11, 3) := by decide +kernel
theorem dX1_isProved_13 : decode cX1_isProved 13 = .ok (.aload_n 0, 1) := by decide +kernel
theorem dX1_isProved_14 : decode cX1_isProved 14 = .ok (.iload_n 1, 1) := by decide +kernel
theorem dX1_isProved_15 : decode cX1_isProved 15 = .ok (.invokevirtual 104, 3) := by decide +kernel
theorem dX1_isProved_18 : decode cX1_isProved 18 = .ok (.goto 8, 3) := by decide +kernel
theorem dX1_isProved_21 : decode cX1_isProved 21 = .ok (.aload_n 0, 1) := by decide +kernel
theorem dX1_isProved_22 : decode cX1_isProved 22 = .ok (.iconst 1, 1) := by decide +kernel
theorem dX1_isProved_23 : decode cX1_isProved 23 = .ok (.invokevirtual 101, 3) := by decide +kernel
theorem dX1_isProved_26 : decode cX1_isProved 26 = .ok (.ireturn, 1) := by decide +kernel
set_option maxRecDepth 20000 in
theorem ggX1_setsWith_X1_isThing : GoodIn wsX1_setsWith wsX1_isThing := goodIn_r _ [6, 7, 8, 9, 5, 10, 36, 37, 38, 39, 40, 41, 42, 43, 44, 45] (by decide +kernel) (by decide +kernel)
set_option maxRecDepth 20000 in
theorem gX1_setsWith_X1_isThing : GoodIn wsX1_setsWith (wsV RX1 91 RX1 yX1_isThing wsX1_isThing) := goodIn_app (goodIn_of _ (by decide +kernel)) ggX1_setsWith_X1_isThing
set_option maxRecDepth 20000 in
theorem ggX1_setsWith_X1_withThing : GoodIn wsX1_setsWith wsX1_withThing := goodIn_r _ [14, 15, 16, 17, 5, 18, 7, 19, 20, 21, 22, 23, 24, 25, 26, 27, 28, 29, 30, 31, 36, 37, 38, 39, 40, 41, 42, 43, 44, 45] (by decide +kernel) (by decide +kernel)
set_option maxRecDepth 20000 in
theorem gX1_setsWith_X1_withThing : GoodIn wsX1_setsWith (wsV RX1 107 RX1 yX1_withThing wsX1_withThing) := goodIn_app (goodIn_of _ (by decide +kernel)) ggX1_setsWith_X1_withThing
set_option maxRecDepth 20000 in
theorem ggX1_setsWith_X1_no : GoodIn wsX1_setsWith wsX1_no := goodIn_r _ [35, 1, 36, 37, 38, 39, 40, 41, 42, 43, 44, 45] (by decide +kernel) (by decide +kernel)
set_option maxRecDepth 20000 in
theorem gX1_setsWith_X1_no : GoodIn wsX1_setsWith (wsV RX1 64 RX1 yX1_no wsX1_no) := goodIn_app (goodIn_of _ (by decide +kernel)) ggX1_setsWith_X1_no
theorem dX1_setsWith_0 : decode cX1_setsWith 0 = .ok (.aload_n 0, 1) := by decide +kernel
theorem dX1_setsWith_1 : decode cX1_setsWith 1 = .ok (.iconst 0, 1) := by decide +kernel
theorem dX1_setsWith_2 : decode cX1_setsWith 2 = .ok (.putfield 26, 3) := by decide +kernel
theorem dX1_setsWith_5 : decode cX1_setsWith 5 = .ok (.aload_n 0, 1) := by decide +kernel
theorem dX1_setsWith_6 : decode cX1_setsWith 6 = .ok (.iload_n 1, 1) := by decide +kernel
theorem dX1_setsWith_7 : decode cX1_setsWith 7 = .ok (.invokevirtual 91, 3) := by decide +kernel
theorem dX1_setsWith_10 : decode cX1_setsWith 10 = .ok (.ifCond .eq 11, 3) := by decide +kernel
theorem dX1_setsWith_13 : decode cX1_setsWith 13 = .ok (.aload_n 0, 1) := by decide +kernel
theorem dX1_setsWith_14 : decode cX1_setsWith 14 = .ok (.iload_n 1, 1) := by decide +kernel
theorem dX1_setsWith_15 : decode cX1_setsWith 15 = .ok (.invokevirtual 107, 3) := by decide +kernel
theorem dX1_setsWith_18 : decode cX1_setsWith 18 = .ok (.goto 8, 3) := by decide +kernel
theorem dX1_setsWith_21 : decode cX1_setsWith 21 = .ok (.aload_n 0, 1) := by decide +kernel
theorem dX1_setsWith_22 : decode cX1_setsWith 22 = .ok (.iconst 1, 1) := by decide +kernel
theorem dX1_setsWith_23 : decode cX1_setsWith 23 = .ok (.invokevirtual 64, 3) := by decide +kernel
theorem dX1_setsWith_26 : decode cX1_setsWith 26 = .ok (.ireturn, 1) := by decide +kernel
set_option maxRecDepth 20000 in
theorem ggX1_nights_X1_ok : GoodIn wsX1_nights wsX1_ok := goodIn_r _ [6, 7, 8, 9, 10, 11, 12, 13, 14, 15, 16, 17] (by decide +kernel) (by decide +kernel)
set_option maxRecDepth 20000 in
theorem gX1_nights_X1_ok : GoodIn wsX1_nights (wsV RX1 88 RX1 yX1_ok wsX1_ok) := goodIn_app (goodIn_of _ (by decide +kernel)) ggX1_nights_X1_ok
theorem dX1_nights_0 : decode cX1_nights 0 = .ok (.aload_n 0, 1) := by decide +kernel
theorem dX1_nights_1 : decode cX1_nights 1 = .ok (.aload_n 0, 1) := by decide +kernel
theorem dX1_nights_2 : decode cX1_nights 2 = .ok (.getfield 37, 3) := by decide +kernel
theorem dX1_nights_5 : decode cX1_nights 5 = .ok (.invokevirtual 88, 3) := by decide +kernel
theorem dX1_nights_8 : decode cX1_nights 8 = .ok (.ireturn, 1) := by decide +kernel
theorem dX1_smudgesNow_0 : decode cX1_smudgesNow 0 = .ok (.iconst 0, 1) := by decide +kernel
theorem dX1_smudgesNow_1 : decode cX1_smudgesNow 1 = .ok (.istore_n 1, 1) := by decide +kernel
theorem dX1_smudgesNow_2 : decode cX1_smudgesNow 2 = .ok (.iconst 0, 1) := by decide +kernel
theorem dX1_smudgesNow_3 : decode cX1_smudgesNow 3 = .ok (.istore_n 2, 1) := by decide +kernel
theorem dX1_smudgesNow_4 : decode cX1_smudgesNow 4 = .ok (.iload_n 2, 1) := by decide +kernel
theorem dX1_smudgesNow_5 : decode cX1_smudgesNow 5 = .ok (.aload_n 0, 1) := by decide +kernel
theorem dX1_smudgesNow_6 : decode cX1_smudgesNow 6 = .ok (.getfield 37, 3) := by decide +kernel
theorem dX1_smudgesNow_9 : decode cX1_smudgesNow 9 = .ok (.if_icmp .ge 26, 3) := by decide +kernel
theorem dX1_smudgesNow_12 : decode cX1_smudgesNow 12 = .ok (.iload_n 1, 1) := by decide +kernel
theorem dX1_smudgesNow_13 : decode cX1_smudgesNow 13 = .ok (.aload_n 0, 1) := by decide +kernel
theorem dX1_smudgesNow_14 : decode cX1_smudgesNow 14 = .ok (.getfield 13, 3) := by decide +kernel
theorem dX1_smudgesNow_17 : decode cX1_smudgesNow 17 = .ok (.iload_n 2, 1) := by decide +kernel
theorem dX1_smudgesNow_18 : decode cX1_smudgesNow 18 = .ok (.baload, 1) := by decide +kernel
theorem dX1_smudgesNow_19 : decode cX1_smudgesNow 19 = .ok (.ifCond .eq 7, 3) := by decide +kernel
theorem dX1_smudgesNow_22 : decode cX1_smudgesNow 22 = .ok (.iconst 1, 1) := by decide +kernel
theorem dX1_smudgesNow_23 : decode cX1_smudgesNow 23 = .ok (.goto 4, 3) := by decide +kernel
theorem dX1_smudgesNow_26 : decode cX1_smudgesNow 26 = .ok (.iconst 0, 1) := by decide +kernel
theorem dX1_smudgesNow_27 : decode cX1_smudgesNow 27 = .ok (.iadd, 1) := by decide +kernel
theorem dX1_smudgesNow_28 : decode cX1_smudgesNow 28 = .ok (.istore_n 1, 1) := by decide +kernel
theorem dX1_smudgesNow_29 : decode cX1_smudgesNow 29 = .ok (.iinc 2 1, 3) := by decide +kernel
theorem dX1_smudgesNow_32 : decode cX1_smudgesNow 32 = .ok (.goto (-28), 3) := by decide +kernel
theorem dX1_smudgesNow_35 : decode cX1_smudgesNow 35 = .ok (.iload_n 1, 1) := by decide +kernel
theorem dX1_smudgesNow_36 : decode cX1_smudgesNow 36 = .ok (.ireturn, 1) := by decide +kernel
set_option maxRecDepth 20000 in
theorem ggX1_smudges_X1_smudgesNow : GoodIn wsX1_smudges wsX1_smudgesNow := goodIn_r _ [5, 6, 7, 13, 14, 15, 16, 17, 18, 19, 20, 21, 22] (by decide +kernel) (by decide +kernel)
set_option maxRecDepth 20000 in
theorem gX1_smudges_X1_smudgesNow : GoodIn wsX1_smudges (wsV RX1 110 RX1 yX1_smudgesNow wsX1_smudgesNow) := goodIn_app (goodIn_of _ (by decide +kernel)) ggX1_smudges_X1_smudgesNow
set_option maxRecDepth 20000 in
theorem ggX1_smudges_X1_ok : GoodIn wsX1_smudges wsX1_ok := goodIn_r _ [11, 12, 13, 14, 15, 16, 17, 18, 19, 20, 21, 22] (by decide +kernel) (by decide +kernel)
set_option maxRecDepth 20000 in
theorem gX1_smudges_X1_ok : GoodIn wsX1_smudges (wsV RX1 88 RX1 yX1_ok wsX1_ok) := goodIn_app (goodIn_of _ (by decide +kernel)) ggX1_smudges_X1_ok
theorem dX1_smudges_0 : decode cX1_smudges 0 = .ok (.aload_n 0, 1) := by decide +kernel
theorem dX1_smudges_1 : decode cX1_smudges 1 = .ok (.aload_n 0, 1) := by decide +kernel
theorem dX1_smudges_2 : decode cX1_smudges 2 = .ok (.invokevirtual 110, 3) := by decide +kernel
theorem dX1_smudges_5 : decode cX1_smudges 5 = .ok (.invokevirtual 88, 3) := by decide +kernel
theorem dX1_smudges_8 : decode cX1_smudges 8 = .ok (.ireturn, 1) := by decide +kernel
set_option maxRecDepth 20000 in
theorem ggX1_usedIn_X1_isNight : GoodIn wsX1_usedIn wsX1_isNight := goodIn_r _ [7, 8, 9, 10, 6, 11, 16, 17, 18, 19, 20, 21, 22, 23, 24, 25] (by decide +kernel) (by decide +kernel)
set_option maxRecDepth 20000 in
theorem gX1_usedIn_X1_isNight : GoodIn wsX1_usedIn (wsV RX1 85 RX1 yX1_isNight wsX1_isNight) := goodIn_app (goodIn_of _ (by decide +kernel)) ggX1_usedIn_X1_isNight
set_option maxRecDepth 20000 in
theorem ggX1_usedIn_X1_no : GoodIn wsX1_usedIn wsX1_no := goodIn_r _ [15, 1, 16, 17, 18, 19, 20, 21, 22, 23, 24, 25] (by decide +kernel) (by decide +kernel)
set_option maxRecDepth 20000 in
theorem gX1_usedIn_X1_no : GoodIn wsX1_usedIn (wsV RX1 64 RX1 yX1_no wsX1_no) := goodIn_app (goodIn_of _ (by decide +kernel)) ggX1_usedIn_X1_no
theorem dX1_usedIn_0 : decode cX1_usedIn 0 = .ok (.aload_n 0, 1) := by decide +kernel
theorem dX1_usedIn_1 : decode cX1_usedIn 1 = .ok (.iconst 0, 1) := by decide +kernel
theorem dX1_usedIn_2 : decode cX1_usedIn 2 = .ok (.putfield 26, 3) := by decide +kernel
theorem dX1_usedIn_5 : decode cX1_usedIn 5 = .ok (.aload_n 0, 1) := by decide +kernel
theorem dX1_usedIn_6 : decode cX1_usedIn 6 = .ok (.iload_n 1, 1) := by decide +kernel
theorem dX1_usedIn_7 : decode cX1_usedIn 7 = .ok (.invokevirtual 85, 3) := by decide +kernel
theorem dX1_usedIn_10 : decode cX1_usedIn 10 = .ok (.ifCond .eq 12, 3) := by decide +kernel
theorem dX1_usedIn_13 : decode cX1_usedIn 13 = .ok (.aload_n 0, 1) := by decide +kernel
theorem dX1_usedIn_14 : decode cX1_usedIn 14 = .ok (.getfield 9, 3) := by decide +kernel
theorem dX1_usedIn_17 : decode cX1_usedIn 17 = .ok (.iload_n 1, 1) := by decide +kernel
theorem dX1_usedIn_18 : decode cX1_usedIn 18 = .ok (.iaload, 1) := by decide +kernel
theorem dX1_usedIn_19 : decode cX1_usedIn 19 = .ok (.goto 8, 3) := by decide +kernel
theorem dX1_usedIn_22 : decode cX1_usedIn 22 = .ok (.aload_n 0, 1) := by decide +kernel
theorem dX1_usedIn_23 : decode cX1_usedIn 23 = .ok (.iconst 1, 1) := by decide +kernel
theorem dX1_usedIn_24 : decode cX1_usedIn 24 = .ok (.invokevirtual 64, 3) := by decide +kernel
theorem dX1_usedIn_27 : decode cX1_usedIn 27 = .ok (.ireturn, 1) := by decide +kernel
set_option maxRecDepth 20000 in
theorem ggX1_isSmudged_X1_isNight : GoodIn wsX1_isSmudged wsX1_isNight := goodIn_r _ [7, 8, 9, 10, 6, 11, 16, 17, 18, 19, 20, 21, 22, 23, 24, 25] (by decide +kernel) (by decide +kernel)
set_option maxRecDepth 20000 in
theorem gX1_isSmudged_X1_isNight : GoodIn wsX1_isSmudged (wsV RX1 85 RX1 yX1_isNight wsX1_isNight) := goodIn_app (goodIn_of _ (by decide +kernel)) ggX1_isSmudged_X1_isNight
set_option maxRecDepth 20000 in
theorem ggX1_isSmudged_X1_isNot : GoodIn wsX1_isSmudged wsX1_isNot := goodIn_r _ [15, 1, 16, 17, 18, 19, 20, 21, 22, 23, 24, 25] (by decide +kernel) (by decide +kernel)
set_option maxRecDepth 20000 in
theorem gX1_isSmudged_X1_isNot : GoodIn wsX1_isSmudged (wsV RX1 101 RX1 yX1_isNot wsX1_isNot) := goodIn_app (goodIn_of _ (by decide +kernel)) ggX1_isSmudged_X1_isNot
theorem dX1_isSmudged_0 : decode cX1_isSmudged 0 = .ok (.aload_n 0, 1) := by decide +kernel
theorem dX1_isSmudged_1 : decode cX1_isSmudged 1 = .ok (.iconst 0, 1) := by decide +kernel
theorem dX1_isSmudged_2 : decode cX1_isSmudged 2 = .ok (.putfield 26, 3) := by decide +kernel
theorem dX1_isSmudged_5 : decode cX1_isSmudged 5 = .ok (.aload_n 0, 1) := by decide +kernel
theorem dX1_isSmudged_6 : decode cX1_isSmudged 6 = .ok (.iload_n 1, 1) := by decide +kernel
theorem dX1_isSmudged_7 : decode cX1_isSmudged 7 = .ok (.invokevirtual 85, 3) := by decide +kernel
theorem dX1_isSmudged_10 : decode cX1_isSmudged 10 = .ok (.ifCond .eq 12, 3) := by decide +kernel
theorem dX1_isSmudged_13 : decode cX1_isSmudged 13 = .ok (.aload_n 0, 1) := by decide +kernel
theorem dX1_isSmudged_14 : decode cX1_isSmudged 14 = .ok (.getfield 13, 3) := by decide +kernel
theorem dX1_isSmudged_17 : decode cX1_isSmudged 17 = .ok (.iload_n 1, 1) := by decide +kernel
theorem dX1_isSmudged_18 : decode cX1_isSmudged 18 = .ok (.baload, 1) := by decide +kernel
theorem dX1_isSmudged_19 : decode cX1_isSmudged 19 = .ok (.goto 8, 3) := by decide +kernel
theorem dX1_isSmudged_22 : decode cX1_isSmudged 22 = .ok (.aload_n 0, 1) := by decide +kernel
theorem dX1_isSmudged_23 : decode cX1_isSmudged 23 = .ok (.iconst 1, 1) := by decide +kernel
theorem dX1_isSmudged_24 : decode cX1_isSmudged 24 = .ok (.invokevirtual 101, 3) := by decide +kernel
theorem dX1_isSmudged_27 : decode cX1_isSmudged 27 = .ok (.ireturn, 1) := by decide +kernel
set_option maxRecDepth 20000 in
theorem ggX1_agree_X1_fewest : GoodIn wsX1_agree wsX1_fewest := goodIn_r _ [6, 7, 8, 9, 5, 10, 11, 12, 13, 14, 15, 16, 17, 18, 19, 20, 21, 22, 23, 24, 25, 26, 27, 28, 29, 30, 31, 32, 33, 34, 35, 36, 37, 38] (by decide +kernel) (by decide +kernel)
set_option maxRecDepth 20000 in
theorem gX1_agree_X1_fewest : GoodIn wsX1_agree (wsV RX1 79 RX1 yX1_fewest wsX1_fewest) := goodIn_app (goodIn_of _ (by decide +kernel)) ggX1_agree_X1_fewest
theorem dX1_agree_0 : decode cX1_agree 0 = .ok (.aload_n 0, 1) := by decide +kernel
theorem dX1_agree_1 : decode cX1_agree 1 = .ok (.iconst 0, 1) := by decide +kernel
theorem dX1_agree_2 : decode cX1_agree 2 = .ok (.putfield 26, 3) := by decide +kernel
theorem dX1_agree_5 : decode cX1_agree 5 = .ok (.aload_n 0, 1) := by decide +kernel
theorem dX1_agree_6 : decode cX1_agree 6 = .ok (.invokevirtual 79, 3) := by decide +kernel
theorem dX1_agree_9 : decode cX1_agree 9 = .ok (.iconst (-1), 1) := by decide +kernel
theorem dX1_agree_10 : decode cX1_agree 10 = .ok (.if_icmp .eq 7, 3) := by decide +kernel
theorem dX1_agree_13 : decode cX1_agree 13 = .ok (.iconst 1, 1) := by decide +kernel
theorem dX1_agree_14 : decode cX1_agree 14 = .ok (.goto 4, 3) := by decide +kernel
theorem dX1_agree_17 : decode cX1_agree 17 = .ok (.iconst 0, 1) := by decide +kernel
theorem dX1_agree_18 : decode cX1_agree 18 = .ok (.ireturn, 1) := by decide +kernel
set_option maxRecDepth 20000 in
theorem ggX1_astronomers_X1_ok : GoodIn wsX1_astronomers wsX1_ok := goodIn_r _ [6, 7, 8, 9, 10, 11, 12, 13, 14, 15, 16, 17] (by decide +kernel) (by decide +kernel)
set_option maxRecDepth 20000 in
theorem gX1_astronomers_X1_ok : GoodIn wsX1_astronomers (wsV RX1 88 RX1 yX1_ok wsX1_ok) := goodIn_app (goodIn_of _ (by decide +kernel)) ggX1_astronomers_X1_ok
theorem dX1_astronomers_0 : decode cX1_astronomers 0 = .ok (.aload_n 0, 1) := by decide +kernel
theorem dX1_astronomers_1 : decode cX1_astronomers 1 = .ok (.aload_n 0, 1) := by decide +kernel
theorem dX1_astronomers_2 : decode cX1_astronomers 2 = .ok (.getfield 40, 3) := by decide +kernel
theorem dX1_astronomers_5 : decode cX1_astronomers 5 = .ok (.invokevirtual 88, 3) := by decide +kernel
theorem dX1_astronomers_8 : decode cX1_astronomers 8 = .ok (.ireturn, 1) := by decide +kernel
set_option maxRecDepth 20000 in
theorem ggX1_blamedBy_X1_isAstronomer : GoodIn wsX1_blamedBy wsX1_isAstronomer := goodIn_r _ [7, 8, 9, 10, 6, 11, 16, 17, 18, 19, 20, 21, 22, 23, 24, 25] (by decide +kernel) (by decide +kernel)
set_option maxRecDepth 20000 in
theorem gX1_blamedBy_X1_isAstronomer : GoodIn wsX1_blamedBy (wsV RX1 67 RX1 yX1_isAstronomer wsX1_isAstronomer) := goodIn_app (goodIn_of _ (by decide +kernel)) ggX1_blamedBy_X1_isAstronomer
set_option maxRecDepth 20000 in
theorem ggX1_blamedBy_X1_no : GoodIn wsX1_blamedBy wsX1_no := goodIn_r _ [15, 1, 16, 17, 18, 19, 20, 21, 22, 23, 24, 25] (by decide +kernel) (by decide +kernel)
set_option maxRecDepth 20000 in
theorem gX1_blamedBy_X1_no : GoodIn wsX1_blamedBy (wsV RX1 64 RX1 yX1_no wsX1_no) := goodIn_app (goodIn_of _ (by decide +kernel)) ggX1_blamedBy_X1_no
theorem dX1_blamedBy_0 : decode cX1_blamedBy 0 = .ok (.aload_n 0, 1) := by decide +kernel
theorem dX1_blamedBy_1 : decode cX1_blamedBy 1 = .ok (.iconst 0, 1) := by decide +kernel
theorem dX1_blamedBy_2 : decode cX1_blamedBy 2 = .ok (.putfield 26, 3) := by decide +kernel
theorem dX1_blamedBy_5 : decode cX1_blamedBy 5 = .ok (.aload_n 0, 1) := by decide +kernel
theorem dX1_blamedBy_6 : decode cX1_blamedBy 6 = .ok (.iload_n 1, 1) := by decide +kernel
theorem dX1_blamedBy_7 : decode cX1_blamedBy 7 = .ok (.invokevirtual 67, 3) := by decide +kernel
theorem dX1_blamedBy_10 : decode cX1_blamedBy 10 = .ok (.ifCond .eq 12, 3) := by decide +kernel
theorem dX1_blamedBy_13 : decode cX1_blamedBy 13 = .ok (.aload_n 0, 1) := by decide +kernel
theorem dX1_blamedBy_14 : decode cX1_blamedBy 14 = .ok (.getfield 23, 3) := by decide +kernel
theorem dX1_blamedBy_17 : decode cX1_blamedBy 17 = .ok (.iload_n 1, 1) := by decide +kernel
theorem dX1_blamedBy_18 : decode cX1_blamedBy 18 = .ok (.iaload, 1) := by decide +kernel
theorem dX1_blamedBy_19 : decode cX1_blamedBy 19 = .ok (.goto 8, 3) := by decide +kernel
theorem dX1_blamedBy_22 : decode cX1_blamedBy 22 = .ok (.aload_n 0, 1) := by decide +kernel
theorem dX1_blamedBy_23 : decode cX1_blamedBy 23 = .ok (.iconst 1, 1) := by decide +kernel
theorem dX1_blamedBy_24 : decode cX1_blamedBy 24 = .ok (.invokevirtual 64, 3) := by decide +kernel
theorem dX1_blamedBy_27 : decode cX1_blamedBy 27 = .ok (.ireturn, 1) := by decide +kernel
set_option maxRecDepth 20000 in
theorem ggX1_stubbornnessOf_X1_isAstronomer : GoodIn wsX1_stubbornnessOf wsX1_isAstronomer := goodIn_r _ [7, 8, 9, 10, 6, 11, 16, 17, 18, 19, 20, 21, 22, 23, 24, 25] (by decide +kernel) (by decide +kernel)
set_option maxRecDepth 20000 in
theorem gX1_stubbornnessOf_X1_isAstronomer : GoodIn wsX1_stubbornnessOf (wsV RX1 67 RX1 yX1_isAstronomer wsX1_isAstronomer) := goodIn_app (goodIn_of _ (by decide +kernel)) ggX1_stubbornnessOf_X1_isAstronomer
set_option maxRecDepth 20000 in
theorem ggX1_stubbornnessOf_X1_no : GoodIn wsX1_stubbornnessOf wsX1_no := goodIn_r _ [15, 1, 16, 17, 18, 19, 20, 21, 22, 23, 24, 25] (by decide +kernel) (by decide +kernel)
set_option maxRecDepth 20000 in
theorem gX1_stubbornnessOf_X1_no : GoodIn wsX1_stubbornnessOf (wsV RX1 64 RX1 yX1_no wsX1_no) := goodIn_app (goodIn_of _ (by decide +kernel)) ggX1_stubbornnessOf_X1_no
theorem dX1_stubbornnessOf_0 : decode cX1_stubbornnessOf 0 = .ok (.aload_n 0, 1) := by decide +kernel
theorem dX1_stubbornnessOf_1 : decode cX1_stubbornnessOf 1 = .ok (.iconst 0, 1) := by decide +kernel
theorem dX1_stubbornnessOf_2 : decode cX1_stubbornnessOf 2 = .ok (.putfield 26, 3) := by decide +kernel
theorem dX1_stubbornnessOf_5 : decode cX1_stubbornnessOf 5 = .ok (.aload_n 0, 1) := by decide +kernel
theorem dX1_stubbornnessOf_6 : decode cX1_stubbornnessOf 6 = .ok (.iload_n 1, 1) := by decide +kernel
theorem dX1_stubbornnessOf_7 : decode cX1_stubbornnessOf 7 = .ok (.invokevirtual 67, 3) := by decide +kernel
theorem dX1_stubbornnessOf_10 : decode cX1_stubbornnessOf 10 = .ok (.ifCond .eq 12, 3) := by decide +kernel
theorem dX1_stubbornnessOf_13 : decode cX1_stubbornnessOf 13 = .ok (.aload_n 0, 1) := by decide +kernel
theorem dX1_stubbornnessOf_14 : decode cX1_stubbornnessOf 14 = .ok (.getfield 20, 3) := by decide +kernel
theorem dX1_stubbornnessOf_17 : decode cX1_stubbornnessOf 17 = .ok (.iload_n 1, 1) := by decide +kernel
theorem dX1_stubbornnessOf_18 : decode cX1_stubbornnessOf 18 = .ok (.iaload, 1) := by decide +kernel
theorem dX1_stubbornnessOf_19 : decode cX1_stubbornnessOf 19 = .ok (.goto 8, 3) := by decide +kernel
theorem dX1_stubbornnessOf_22 : decode cX1_stubbornnessOf 22 = .ok (.aload_n 0, 1) := by decide +kernel
theorem dX1_stubbornnessOf_23 : decode cX1_stubbornnessOf 23 = .ok (.iconst 1, 1) := by decide +kernel
theorem dX1_stubbornnessOf_24 : decode cX1_stubbornnessOf 24 = .ok (.invokevirtual 64, 3) := by decide +kernel
theorem dX1_stubbornnessOf_27 : decode cX1_stubbornnessOf 27 = .ok (.ireturn, 1) := by decide +kernel
set_option maxRecDepth 20000 in
theorem ggX1_unexplainedBy_X1_isAstronomer : GoodIn wsX1_unexplainedBy wsX1_isAstronomer := goodIn_r _ [7, 8, 9, 10, 6, 11, 26, 27, 28, 29, 30, 31, 32, 33, 34, 35] (by decide +kernel) (by decide +kernel)
set_option maxRecDepth 20000 in
theorem gX1_unexplainedBy_X1_isAstronomer : GoodIn wsX1_unexplainedBy (wsV RX1 67 RX1 yX1_isAstronomer wsX1_isAstronomer) := goodIn_app (goodIn_of _ (by decide +kernel)) ggX1_unexplainedBy_X1_isAstronomer
set_option maxRecDepth 20000 in
theorem ggX1_unexplainedBy_X1_unexplained : GoodIn wsX1_unexplainedBy wsX1_unexplained := goodIn_r _ [15, 16, 17, 18, 19, 20, 6, 21, 26, 27, 28, 29, 30, 31, 32, 33, 34, 35] (by decide +kernel) (by decide +kernel)
set_option maxRecDepth 20000 in
theorem gX1_unexplainedBy_X1_unexplained : GoodIn wsX1_unexplainedBy (wsV RX1 51 RX1 yX1_unexplained wsX1_unexplained) := goodIn_app (goodIn_of _ (by decide +kernel)) ggX1_unexplainedBy_X1_unexplained
set_option maxRecDepth 20000 in
theorem ggX1_unexplainedBy_X1_no : GoodIn wsX1_unexplainedBy wsX1_no := goodIn_r _ [25, 1, 26, 27, 28, 29, 30, 31, 32, 33, 34, 35] (by decide +kernel) (by decide +kernel)
set_option maxRecDepth 20000 in
theorem gX1_unexplainedBy_X1_no : GoodIn wsX1_unexplainedBy (wsV RX1 64 RX1 yX1_no wsX1_no) := goodIn_app (goodIn_of _ (by decide +kernel)) ggX1_unexplainedBy_X1_no
theorem dX1_unexplainedBy_0 : decode cX1_unexplainedBy 0 = .ok (.aload_n 0, 1) := by decide +kernel
theorem dX1_unexplainedBy_1 : decode cX1_unexplainedBy 1 = .ok (.iconst 0, 1) := by decide +kernel
theorem dX1_unexplainedBy_2 : decode cX1_unexplainedBy 2 = .ok (.putfield 26, 3) := by decide +kernel
theorem dX1_unexplainedBy_5 : decode cX1_unexplainedBy 5 = .ok (.aload_n 0, 1) := by decide +kernel
theorem dX1_unexplainedBy_6 : decode cX1_unexplainedBy 6 = .ok (.iload_n 1, 1) := by decide +kernel
theorem dX1_unexplainedBy_7 : decode cX1_unexplainedBy 7 = .ok (.invokevirtual 67, 3) := by decide +kernel
theorem dX1_unexplainedBy_10 : decode cX1_unexplainedBy 10 = .ok (.ifCond .eq 16, 3) := by decide +kernel
theorem dX1_unexplainedBy_13 : decode cX1_unexplainedBy 13 = .ok (.aload_n 0, 1) := by decide +kernel
theorem dX1_unexplainedBy_14 : decode cX1_unexplainedBy 14 = .ok (.aload_n 0, 1) := by decide +kernel
theorem dX1_unexplainedBy_15 : decode cX1_unexplainedBy 15 = .ok (.getfield 23, 3) := by decide +kernel
theorem dX1_unexplainedBy_18 : decode cX1_unexplainedBy 18 = .ok (.iload_n 1, 1) := by decide +kernel
theorem dX1_unexplainedBy_19 : decode cX1_unexplainedBy 19 = .ok (.iaload, 1) := by decide +kernel
theorem dX1_unexplainedBy_20 : decode cX1_unexplainedBy 20 = .ok (.invokevirtual 51, 3) := by decide +kernel
theorem dX1_unexplainedBy_23 : decode cX1_unexplainedBy 23 = .ok (.goto 8, 3) := by decide +kernel
theorem dX1_unexplainedBy_26 : decode cX1_unexplainedBy 26 = .ok (.aload_n 0, 1) := by decide +kernel
theorem dX1_unexplainedBy_27 : decode cX1_unexplainedBy 27 = .ok (.iconst 1, 1) := by decide +kernel
theorem dX1_unexplainedBy_28 : decode cX1_unexplainedBy 28 = .ok (.invokevirtual 64, 3) := by decide +kernel
theorem dX1_unexplainedBy_31 : decode cX1_unexplainedBy 31 = .ok (.ireturn, 1) := by decide +kernel
set_option maxRecDepth 20000 in
theorem ggX1_votes_X1_has : GoodIn wsX1_votes wsX1_has := goodIn_r _ [6] (by decide +kernel) (by decide +kernel)
set_option maxRecDepth 20000 in
theorem gX1_votes_X1_has : GoodIn wsX1_votes (va_wsS RX1 60 yX1_has wsX1_has) := goodIn_app (goodIn_of _ (by decide +kernel)) ggX1_votes_X1_has
theorem dX1_votes_0 : decode cX1_votes 0 = .ok (.iconst 0, 1) := by decide +kernel
theorem dX1_votes_1 : decode cX1_votes 1 = .ok (.istore_n 2, 1) := by decide +kernel
theorem dX1_votes_2 : decode cX1_votes 2 = .ok (.iconst 0, 1) := by decide +kernel
theorem dX1_votes_3 : decode cX1_votes 3 = .ok (.istore_n 3, 1) := by decide +kernel
theorem dX1_votes_4 : decode cX1_votes 4 = .ok (.iload_n 3, 1) := by decide +kernel
theorem dX1_votes_5 : decode cX1_votes 5 = .ok (.aload_n 0, 1) := by decide +kernel
theorem dX1_votes_6 : decode cX1_votes 6 = .ok (.getfield 40, 3) := by decide +kernel
theorem dX1_votes_9 : decode cX1_votes 9 = .ok (.if_icmp .ge 30, 3) := by decide +kernel
theorem dX1_votes_12 : decode cX1_votes 12 = .ok (.iload_n 2, 1) := by decide +kernel
theorem dX1_votes_13 : decode cX1_votes 13 = .ok (.aload_n 0, 1) := by decide +kernel
theorem dX1_votes_14 : decode cX1_votes 14 = .ok (.getfield 23, 3) := by decide +kernel
theorem dX1_votes_17 : decode cX1_votes 17 = .ok (.iload_n 3, 1) := by decide +kernel
theorem dX1_votes_18 : decode cX1_votes 18 = .ok (.iaload, 1) := by decide +kernel
theorem dX1_votes_19 : decode cX1_votes 19 = .ok (.iload_n 1, 1) := by decide +kernel
theorem dX1_votes_20 : decode cX1_votes 20 = .ok (.invokestatic 60, 3) := by decide +kernel
theorem dX1_votes_23 : decode cX1_votes 23 = .ok (.ifCond .eq 7, 3) := by decide +kernel
theorem dX1_votes_26 : decode cX1_votes 26 = .ok (.iconst 1, 1) := by decide +kernel
theorem dX1_votes_27 : decode cX1_votes 27 = .ok (.goto 4, 3) := by decide +kernel
theorem dX1_votes_30 : decode cX1_votes 30 = .ok (.iconst 0, 1) := by decide +kernel
theorem dX1_votes_31 : decode cX1_votes 31 = .ok (.iadd, 1) := by decide +kernel
theorem dX1_votes_32 : decode cX1_votes 32 = .ok (.istore_n 2, 1) := by decide +kernel
theorem dX1_votes_33 : decode cX1_votes 33 = .ok (.iinc 3 1, 3) := by decide +kernel
theorem dX1_votes_36 : decode cX1_votes 36 = .ok (.goto (-32), 3) := by decide +kernel
theorem dX1_votes_39 : decode cX1_votes 39 = .ok (.iload_n 2, 1) := by decide +kernel
theorem dX1_votes_40 : decode cX1_votes 40 = .ok (.ireturn, 1) := by decide +kernel
set_option maxRecDepth 20000 in
theorem ggX1_votesFor_X1_isThing : GoodIn wsX1_votesFor wsX1_isThing := goodIn_r _ [6, 7, 8, 9, 5, 10, 24, 25, 26, 27, 28, 29, 30, 31, 32, 33] (by decide +kernel) (by decide +kernel)
set_option maxRecDepth 20000 in
theorem gX1_votesFor_X1_isThing : GoodIn wsX1_votesFor (wsV RX1 91 RX1 yX1_isThing wsX1_isThing) := goodIn_app (goodIn_of _ (by decide +kernel)) ggX1_votesFor_X1_isThing
set_option maxRecDepth 20000 in
theorem ggX1_votesFor_X1_votes : GoodIn wsX1_votesFor wsX1_votes := goodIn_r _ [14, 15, 16, 17, 18, 5, 19, 24, 25, 26, 27, 28, 29, 30, 31, 32, 33] (by decide +kernel) (by decide +kernel)
set_option maxRecDepth 20000 in
theorem gX1_votesFor_X1_votes : GoodIn wsX1_votesFor (wsV RX1 113 RX1 yX1_votes wsX1_votes) := goodIn_app (goodIn_of _ (by decide +kernel)) ggX1_votesFor_X1_votes
set_option maxRecDepth 20000 in
theorem ggX1_votesFor_X1_no : GoodIn wsX1_votesFor wsX1_no := goodIn_r _ [23, 1, 24, 25, 26, 27, 28, 29, 30, 31, 32, 33] (by decide +kernel) (by decide +kernel)
set_option maxRecDepth 20000 in
theorem gX1_votesFor_X1_no : GoodIn wsX1_votesFor (wsV RX1 64 RX1 yX1_no wsX1_no) := goodIn_app (goodIn_of _ (by decide +kernel)) ggX1_votesFor_X1_no
theorem dX1_votesFor_0 : decode cX1_votesFor 0 = .ok (.aload_n 0, 1) := by decide +kernel
theorem dX1_votesFor_1 : decode cX1_votesFor 1 = .ok (.iconst 0, 1) := by decide +kernel
theorem dX1_votesFor_2 : decode cX1_votesFor 2 = .ok (.putfield 26, 3) := by decide +kernel
theorem dX1_votesFor_5 : decode cX1_votesFor 5 = .ok (.aload_n 0, 1) := by decide +kernel
theorem dX1_votesFor_6 : decode cX1_votesFor 6 = .ok (.iload_n 1, 1) := by decide +kernel
theorem dX1_votesFor_7 : decode cX1_votesFor 7 = .ok (.invokevirtual 91, 3) := by decide +kernel
theorem dX1_votesFor_10 : decode cX1_votesFor 10 = .ok (.ifCond .eq 11, 3) := by decide +kernel
theorem dX1_votesFor_13 : decode cX1_votesFor 13 = .ok (.aload_n 0, 1) := by decide +kernel
theorem dX1_votesFor_14 : decode cX1_votesFor 14 = .ok (.iload_n 1, 1) := by decide +kernel
theorem dX1_votesFor_15 : decode cX1_votesFor 15 = .ok (.invokevirtual 113, 3) := by decide +kernel
theorem dX1_votesFor_18 : decode cX1_votesFor 18 = .ok (.goto 8, 3) := by decide +kernel
theorem dX1_votesFor_21 : decode cX1_votesFor 21 = .ok (.aload_n 0, 1) := by decide +kernel
theorem dX1_votesFor_22 : decode cX1_votesFor 22 = .ok (.iconst 1, 1) := by decide +kernel
theorem dX1_votesFor_23 : decode cX1_votesFor 23 = .ok (.invokevirtual 64, 3) := by decide +kernel
theorem dX1_votesFor_26 : decode cX1_votesFor 26 = .ok (.ireturn, 1) := by decide +kernel
set_option maxRecDepth 20000 in
theorem ggX1_voted_X1_votes : GoodIn wsX1_voted wsX1_votes := goodIn_r _ [7, 2, 8, 9, 10, 6, 11, 12, 13, 14, 15, 16, 17, 18, 19, 20, 21] (by decide +kernel) (by decide +kernel)
set_option maxRecDepth 20000 in
theorem gX1_voted_X1_votes : GoodIn wsX1_voted (wsV RX1 113 RX1 yX1_votes wsX1_votes) := goodIn_app (goodIn_of _ (by decide +kernel)) ggX1_voted_X1_votes
theorem dX1_voted_0 : decode cX1_voted 0 = .ok (.iconst 0, 1) := by decide +kernel
theorem dX1_voted_1 : decode cX1_voted 1 = .ok (.istore_n 1, 1) := by decide +kernel
theorem dX1_voted_2 : decode cX1_voted 2 = .ok (.iconst 0, 1) := by decide +kernel
theorem dX1_voted_3 : decode cX1_voted 3 = .ok (.istore_n 2, 1) := by decide +kernel
theorem dX1_voted_4 : decode cX1_voted 4 = .ok (.iload_n 2, 1) := by decide +kernel
theorem dX1_voted_5 : decode cX1_voted 5 = .ok (.aload_n 0, 1) := by decide +kernel
theorem dX1_voted_6 : decode cX1_voted 6 = .ok (.getfield 30, 3) := by decide +kernel
theorem dX1_voted_9 : decode cX1_voted 9 = .ok (.if_icmp .ge 29, 3) := by decide +kernel
theorem dX1_voted_12 : decode cX1_voted 12 = .ok (.iconst 2, 1) := by decide +kernel
theorem dX1_voted_13 : decode cX1_voted 13 = .ok (.aload_n 0, 1) := by decide +kernel
theorem dX1_voted_14 : decode cX1_voted 14 = .ok (.iload_n 2, 1) := by decide +kernel
theorem dX1_voted_15 : decode cX1_voted 15 = .ok (.invokevirtual 113, 3) := by decide +kernel
theorem dX1_voted_18 : decode cX1_voted 18 = .ok (.imul, 1) := by decide +kernel
theorem dX1_voted_19 : decode cX1_voted 19 = .ok (.aload_n 0, 1) := by decide +kernel
theorem dX1_voted_20 : decode cX1_voted 20 = .ok (.getfield 40, 3) := by decide +kernel
theorem dX1_voted_23 : decode cX1_voted 23 = .ok (.if_icmp .le 9, 3) := by decide +kernel
theorem dX1_voted_26 : decode cX1_voted 26 = .ok (.iload_n 1, 1) := by decide +kernel
theorem dX1_voted_27 : decode cX1_voted 27 = .ok (.iconst 1, 1) := by decide +kernel
theorem dX1_voted_28 : decode cX1_voted 28 = .ok (.iload_n 2, 1) := by decide +kernel
theorem dX1_voted_29 : decode cX1_voted 29 = .ok (.ishl, 1) := by decide +kernel
theorem dX1_voted_30 : decode cX1_voted 30 = .ok (.ior, 1) := by decide +kernel
theorem dX1_voted_31 : decode cX1_voted 31 = .ok (.istore_n 1, 1) := by decide +kernel
theorem dX1_voted_32 : decode cX1_voted 32 = .ok (.iinc 2 1, 3) := by decide +kernel
theorem dX1_voted_35 : decode cX1_voted 35 = .ok (.goto (-31), 3) := by decide +kernel
theorem dX1_voted_38 : decode cX1_voted 38 = .ok (.iload_n 1, 1) := by decide +kernel
theorem dX1_voted_39 : decode cX1_voted 39 = .ok (.ireturn, 1) := by decide +kernel
set_option maxRecDepth 20000 in
theorem ggX1_vote_X1_voted : GoodIn wsX1_vote wsX1_voted := goodIn_r _ [5, 6, 7, 8, 9, 10, 4, 11, 12, 13, 14, 15, 21, 22, 23, 24, 25, 26, 27, 28, 29, 30] (by decide +kernel) (by decide +kernel)
set_option maxRecDepth 20000 in
theorem gX1_vote_X1_voted : GoodIn wsX1_vote (wsV RX1 116 RX1 yX1_voted wsX1_voted) := goodIn_app (goodIn_of _ (by decide +kernel)) ggX1_vote_X1_voted
set_option maxRecDepth 20000 in
theorem ggX1_vote_X1_ok : GoodIn wsX1_vote wsX1_ok := goodIn_r _ [19, 20, 21, 22, 23, 24, 25, 26, 27, 28, 29, 30] (by decide +kernel) (by decide +kernel)
set_option maxRecDepth 20000 in
theorem gX1_vote_X1_ok : GoodIn wsX1_vote (wsV RX1 88 RX1 yX1_ok wsX1_ok) := goodIn_app (goodIn_of _ (by decide +kernel)) ggX1_vote_X1_ok
theorem dX1_vote_0 : decode cX1_vote 0 = .ok (.aload_n 0, 1) := by decide +kernel
theorem dX1_vote_1 : decode cX1_vote 1 = .ok (.aload_n 0, 1) := by decide +kernel
theorem dX1_vote_2 : decode cX1_vote 2 = .ok (.invokevirtual 116, 3) := by decide +kernel
theorem dX1_vote_5 : decode cX1_vote 5 = .ok (.invokevirtual 88, 3) := by decide +kernel
theorem dX1_vote_8 : decode cX1_vote 8 = .ok (.ireturn, 1) := by decide +kernel
set_option maxRecDepth 20000 in
theorem ggX1_changesOfMind_X1_ok : GoodIn wsX1_changesOfMind wsX1_ok := goodIn_r _ [6, 7, 8, 9, 10, 11, 12, 13, 14, 15, 16, 17] (by decide +kernel) (by decide +kernel)
set_option maxRecDepth 20000 in
theorem gX1_changesOfMind_X1_ok : GoodIn wsX1_changesOfMind (wsV RX1 88 RX1 yX1_ok wsX1_ok) := goodIn_app (goodIn_of _ (by decide +kernel)) ggX1_changesOfMind_X1_ok
theorem dX1_changesOfMind_0 : decode cX1_changesOfMind 0 = .ok (.aload_n 0, 1) := by decide +kernel
theorem dX1_changesOfMind_1 : decode cX1_changesOfMind 1 = .ok (.aload_n 0, 1) := by decide +kernel
theorem dX1_changesOfMind_2 : decode cX1_changesOfMind 2 = .ok (.getfield 82, 3) := by decide +kernel
theorem dX1_changesOfMind_5 : decode cX1_changesOfMind 5 = .ok (.invokevirtual 88, 3) := by decide +kernel
theorem dX1_changesOfMind_8 : decode cX1_changesOfMind 8 = .ok (.ireturn, 1) := by decide +kernel
set_option maxRecDepth 20000 in
theorem ggX1_explainsAll_X1_all : GoodIn wsX1_explainsAll wsX1_all := goodIn_r _ [6, 7, 25, 26, 27, 28, 29, 30, 31, 32, 33, 34] (by decide +kernel) (by decide +kernel)
set_option maxRecDepth 20000 in
theorem gX1_explainsAll_X1_all : GoodIn wsX1_explainsAll (wsV RX1 47 RX1 yX1_all wsX1_all) := goodIn_app (goodIn_of _ (by decide +kernel)) ggX1_explainsAll_X1_all
set_option maxRecDepth 20000 in
theorem ggX1_explainsAll_X1_isIn : GoodIn wsX1_explainsAll wsX1_isIn := goodIn_r _ [10] (by decide +kernel) (by decide +kernel)
set_option maxRecDepth 20000 in
theorem gX1_explainsAll_X1_isIn : GoodIn wsX1_explainsAll (va_wsS RX1 33 yX1_isIn wsX1_isIn) := goodIn_app (goodIn_of _ (by decide +kernel)) ggX1_explainsAll_X1_isIn
set_option maxRecDepth 20000 in
theorem ggX1_explainsAll_X1_unexplained : GoodIn wsX1_explainsAll wsX1_unexplained := goodIn_r _ [14, 15, 16, 17, 18, 19, 5, 20, 25, 26, 27, 28, 29, 30, 31, 32, 33, 34] (by decide +kernel) (by decide +kernel)
set_option maxRecDepth 20000 in
theorem gX1_explainsAll_X1_unexplained : GoodIn wsX1_explainsAll (wsV RX1 51 RX1 yX1_unexplained wsX1_unexplained) := goodIn_app (goodIn_of _ (by decide +kernel)) ggX1_explainsAll_X1_unexplained
set_option maxRecDepth 20000 in
theorem ggX1_explainsAll_X1_isNot : GoodIn wsX1_explainsAll wsX1_isNot := goodIn_r _ [24, 1, 25, 26, 27, 28, 29, 30, 31, 32, 33, 34] (by decide +kernel) (by decide +kernel)
set_option maxRecDepth 20000 in
theorem gX1_explainsAll_X1_isNot : GoodIn wsX1_explainsAll (wsV RX1 101 RX1 yX1_isNot wsX1_isNot) := goodIn_app (goodIn_of _ (by decide +kernel)) ggX1_explainsAll_X1_isNot
theorem dX1_explainsAll_0 : decode cX1_explainsAll 0 = .ok (.aload_n 0, 1) := by decide +kernel
theorem dX1_explainsAll_1 : decode cX1_explainsAll 1 = .ok (.iconst 0, 1) := by decide +kernel
theorem dX1_explainsAll_2 : decode cX1_explainsAll 2 = .ok (.putfield 26, 3) := by decide +kernel
theorem dX1_explainsAll_5 : decode cX1_explainsAll 5 = .ok (.iload_n 1, 1) := by decide +kernel
theorem dX1_explainsAll_6 : decode cX1_explainsAll 6 = .ok (.iconst 0, 1) := by decide +kernel
theorem dX1_explainsAll_7 : decode cX1_explainsAll 7 = .ok (.aload_n 0, 1) := by decide +kernel
theorem dX1_explainsAll_8 : decode cX1_explainsAll 8 = .ok (.invokevirtual 47, 3) := by decide +kernel
theorem dX1_explainsAll_11 : decode cX1_explainsAll 11 = .ok (.invokestatic 33, 3) := by decide +kernel
theorem dX1_explainsAll_14 : decode cX1_explainsAll 14 = .ok (.ifCond .eq 19, 3) := by decide +kernel
theorem dX1_explainsAll_17 : decode cX1_explainsAll 17 = .ok (.aload_n 0, 1) := by decide +kernel
theorem dX1_explainsAll_18 : decode cX1_explainsAll 18 = .ok (.iload_n 1, 1) := by decide +kernel
theorem dX1_explainsAll_19 : decode cX1_explainsAll 19 = .ok (.invokevirtual 51, 3) := by decide +kernel
theorem dX1_explainsAll_22 : decode cX1_explainsAll 22 = .ok (.ifCond .ne 7, 3) := by decide +kernel
theorem dX1_explainsAll_25 : decode cX1_explainsAll 25 = .ok (.iconst 1, 1) := by decide +kernel
theorem dX1_explainsAll_26 : decode cX1_explainsAll 26 = .ok (.goto 12, 3) := by decide +kernel
theorem dX1_explainsAll_29 : decode cX1_explainsAll 29 = .ok (.iconst 0, 1) := by decide +kernel
theorem dX1_explainsAll_30 : decode cX1_explainsAll 30 = .ok (.goto 8, 3) := by decide +kernel
theorem dX1_explainsAll_33 : decode cX1_explainsAll 33 = .ok (.aload_n 0, 1) := by decide +kernel
theorem dX1_explainsAll_34 : decode cX1_explainsAll 34 = .ok (.iconst 1, 1) := by decide +kernel
theorem dX1_explainsAll_35 : decode cX1_explainsAll 35 = .ok (.invokevirtual 101, 3) := by decide +kernel
theorem dX1_explainsAll_38 : decode cX1_explainsAll 38 = .ok (.ireturn, 1) := by decide +kernel
set_option maxRecDepth 20000 in
theorem ggX1_explanations_X1_explaining : GoodIn wsX1_explanations wsX1_explaining := goodIn_r _ [5, 6, 7, 8, 4, 9, 10, 11, 12, 13, 14, 15, 16, 17, 18, 19, 20, 26, 27, 28, 29, 30, 31, 32, 33, 34, 35] (by decide +kernel) (by decide +kernel)
set_option maxRecDepth 20000 in
theorem gX1_explanations_X1_explaining : GoodIn wsX1_explanations (wsV RX1 119 RX1 yX1_explaining wsX1_explaining) := goodIn_app (goodIn_of _ (by decide +kernel)) ggX1_explanations_X1_explaining
set_option maxRecDepth 20000 in
theorem ggX1_explanations_X1_ok : GoodIn wsX1_explanations wsX1_ok := goodIn_r _ [24, 25, 26, 27, 28, 29, 30, 31, 32, 33, 34, 35] (by decide +kernel) (by decide +kernel)
set_option maxRecDepth 20000 in
theorem gX1_explanations_X1_ok : GoodIn wsX1_explanations (wsV RX1 88 RX1 yX1_ok wsX1_ok) := goodIn_app (goodIn_of _ (by decide +kernel)) ggX1_explanations_X1_ok
theorem dX1_explanations_0 : decode cX1_explanations 0 = .ok (.aload_n 0, 1) := by decide +kernel
theorem dX1_explanations_1 : decode cX1_explanations 1 = .ok (.aload_n 0, 1) := by decide +kernel
theorem dX1_explanations_2 : decode cX1_explanations 2 = .ok (.invokevirtual 119, 3) := by decide +kernel
theorem dX1_explanations_5 : decode cX1_explanations 5 = .ok (.invokevirtual 88, 3) := by decide +kernel
theorem dX1_explanations_8 : decode cX1_explanations 8 = .ok (.ireturn, 1) := by decide +kernel
set_option maxRecDepth 20000 in
theorem ggX1_simplest_X1_fewest : GoodIn wsX1_simplest wsX1_fewest := goodIn_r _ [5, 6, 7, 8, 4, 9, 10, 11, 12, 13, 14, 15, 16, 17, 18, 19, 20, 21, 22, 23, 24, 25, 26, 27, 33, 34, 35, 36, 37, 38, 39, 40, 41, 42] (by decide +kernel) (by decide +kernel)
set_option maxRecDepth 20000 in
theorem gX1_simplest_X1_fewest : GoodIn wsX1_simplest (wsV RX1 79 RX1 yX1_fewest wsX1_fewest) := goodIn_app (goodIn_of _ (by decide +kernel)) ggX1_simplest_X1_fewest
set_option maxRecDepth 20000 in
theorem ggX1_simplest_X1_ok : GoodIn wsX1_simplest wsX1_ok := goodIn_r _ [31, 32, 33, 34, 35, 36, 37, 38, 39, 40, 41, 42] (by decide +kernel) (by decide +kernel)
set_option maxRecDepth 20000 in
theorem gX1_simplest_X1_ok : GoodIn wsX1_simplest (wsV RX1 88 RX1 yX1_ok wsX1_ok) := goodIn_app (goodIn_of _ (by decide +kernel)) ggX1_simplest_X1_ok
theorem dX1_simplest_0 : decode cX1_simplest 0 = .ok (.aload_n 0, 1) := by decide +kernel
theorem dX1_simplest_1 : decode cX1_simplest 1 = .ok (.aload_n 0, 1) := by decide +kernel
theorem dX1_simplest_2 : decode cX1_simplest 2 = .ok (.invokevirtual 79, 3) := by decide +kernel
theorem dX1_simplest_5 : decode cX1_simplest 5 = .ok (.invokevirtual 88, 3) := by decide +kernel
theorem dX1_simplest_8 : decode cX1_simplest 8 = .ok (.ireturn, 1) := by decide +kernel
set_option maxRecDepth 20000 in
theorem ggX1_surelyToBlame_X1_inAll : GoodIn wsX1_surelyToBlame wsX1_inAll := goodIn_r _ [5, 6, 7, 8, 4, 9, 10, 11, 12, 13, 14, 15, 16, 17, 18, 19, 20, 26, 27, 28, 29, 30, 31, 32, 33, 34, 35] (by decide +kernel) (by decide +kernel)
set_option maxRecDepth 20000 in
theorem gX1_surelyToBlame_X1_inAll : GoodIn wsX1_surelyToBlame (wsV RX1 122 RX1 yX1_inAll wsX1_inAll) := goodIn_app (goodIn_of _ (by decide +kernel)) ggX1_surelyToBlame_X1_inAll
set_option maxRecDepth 20000 in
theorem ggX1_surelyToBlame_X1_ok : GoodIn wsX1_surelyToBlame wsX1_ok := goodIn_r _ [24, 25, 26, 27, 28, 29, 30, 31, 32, 33, 34, 35] (by decide +kernel) (by decide +kernel)
set_option maxRecDepth 20000 in
theorem gX1_surelyToBlame_X1_ok : GoodIn wsX1_surelyToBlame (wsV RX1 88 RX1 yX1_ok wsX1_ok) := goodIn_app (goodIn_of _ (by decide +kernel)) ggX1_surelyToBlame_X1_ok
theorem dX1_surelyToBlame_0 : decode cX1_surelyToBlame 0 = .ok (.aload_n 0, 1) := by decide +kernel
theorem dX1_surelyToBlame_1 : decode cX1_surelyToBlame 1 = .ok (.aload_n 0, 1) := by decide +kernel
theorem dX1_surelyToBlame_2 : decode cX1_surelyToBlame 2 = .ok (.invokevirtual 122, 3) := by decide +kernel
theorem dX1_surelyToBlame_5 : decode cX1_surelyToBlame 5 = .ok (.invokevirtual 88, 3) := by decide +kernel
theorem dX1_surelyToBlame_8 : decode cX1_surelyToBlame 8 = .ok (.ireturn, 1) := by decide +kernel
set_option maxRecDepth 20000 in
theorem ggX1_nightsToDoubt_X1_all : GoodIn wsX1_nightsToDoubt wsX1_all := goodIn_r _ [11, 12, 22, 23, 24, 25, 26, 27, 28, 29, 30, 31] (by decide +kernel) (by decide +kernel)
set_option maxRecDepth 20000 in
theorem gX1_nightsToDoubt_X1_all : GoodIn wsX1_nightsToDoubt (wsV RX1 47 RX1 yX1_all wsX1_all) := goodIn_app (goodIn_of _ (by decide +kernel)) ggX1_nightsToDoubt_X1_all
set_option maxRecDepth 20000 in
theorem ggX1_nightsToDoubt_X1_unexplained : GoodIn wsX1_nightsToDoubt wsX1_unexplained := goodIn_r _ [16, 2, 17, 18, 19, 20, 10, 21, 22, 23, 24, 25, 26, 27, 28, 29, 30, 31] (by decide +kernel) (by decide +kernel)
set_option maxRecDepth 20000 in
theorem gX1_nightsToDoubt_X1_unexplained : GoodIn wsX1_nightsToDoubt (wsV RX1 51 RX1 yX1_unexplained wsX1_unexplained) := goodIn_app (goodIn_of _ (by decide +kernel)) ggX1_nightsToDoubt_X1_unexplained
theorem dX1_nightsToDoubt_0 : decode cX1_nightsToDoubt 0 = .ok (.aload_n 0, 1) := by decide +kernel
theorem dX1_nightsToDoubt_1 : decode cX1_nightsToDoubt 1 = .ok (.iconst 0, 1) := by decide +kernel
theorem dX1_nightsToDoubt_2 : decode cX1_nightsToDoubt 2 = .ok (.putfield 26, 3) := by decide +kernel
theorem dX1_nightsToDoubt_5 : decode cX1_nightsToDoubt 5 = .ok (.aload_n 0, 1) := by decide +kernel
theorem dX1_nightsToDoubt_6 : decode cX1_nightsToDoubt 6 = .ok (.getfield 37, 3) := by decide +kernel
theorem dX1_nightsToDoubt_9 : decode cX1_nightsToDoubt 9 = .ok (.istore_n 1, 1) := by decide +kernel
theorem dX1_nightsToDoubt_10 : decode cX1_nightsToDoubt 10 = .ok (.iconst 0, 1) := by decide +kernel
theorem dX1_nightsToDoubt_11 : decode cX1_nightsToDoubt 11 = .ok (.istore_n 2, 1) := by decide +kernel
theorem dX1_nightsToDoubt_12 : decode cX1_nightsToDoubt 12 = .ok (.iload_n 2, 1) := by decide +kernel
theorem dX1_nightsToDoubt_13 : decode cX1_nightsToDoubt 13 = .ok (.aload_n 0, 1) := by decide +kernel
theorem dX1_nightsToDoubt_14 : decode cX1_nightsToDoubt 14 = .ok (.invokevirtual 47, 3) := by decide +kernel
theorem dX1_nightsToDoubt_17 : decode cX1_nightsToDoubt 17 = .ok (.if_icmp .gt 19, 3) := by decide +kernel
theorem dX1_nightsToDoubt_20 : decode cX1_nightsToDoubt 20 = .ok (.iload_n 1, 1) := by decide +kernel
theorem dX1_nightsToDoubt_21 : decode cX1_nightsToDoubt 21 = .ok (.aload_n 0, 1) := by decide +kernel
theorem dX1_nightsToDoubt_22 : decode cX1_nightsToDoubt 22 = .ok (.iload_n 2, 1) := by decide +kernel
theorem dX1_nightsToDoubt_23 : decode cX1_nightsToDoubt 23 = .ok (.invokevirtual 51, 3) := by decide +kernel
theorem dX1_nightsToDoubt_26 : decode cX1_nightsToDoubt 26 = .ok (.invokestatic 125, 3) := by decide +kernel
theorem dX1_nightsToDoubt_29 : decode cX1_nightsToDoubt 29 = .ok (.istore_n 1, 1) := by decide +kernel
theorem dX1_nightsToDoubt_30 : decode cX1_nightsToDoubt 30 = .ok (.iinc 2 1, 3) := by decide +kernel
theorem dX1_nightsToDoubt_33 : decode cX1_nightsToDoubt 33 = .ok (.goto (-21), 3) := by decide +kernel
theorem dX1_nightsToDoubt_36 : decode cX1_nightsToDoubt 36 = .ok (.iload_n 1, 1) := by decide +kernel
theorem dX1_nightsToDoubt_37 : decode cX1_nightsToDoubt 37 = .ok (.ireturn, 1) := by decide +kernel
set_option maxRecDepth 20000 in
theorem ggX1_leftIfSmudged_X1_all : GoodIn wsX1_leftIfSmudged wsX1_all := goodIn_r _ [6, 7, 29, 30, 31, 32, 33, 34, 35, 36, 37, 38] (by decide +kernel) (by decide +kernel)
set_option maxRecDepth 20000 in
theorem gX1_leftIfSmudged_X1_all : GoodIn wsX1_leftIfSmudged (wsV RX1 47 RX1 yX1_all wsX1_all) := goodIn_app (goodIn_of _ (by decide +kernel)) ggX1_leftIfSmudged_X1_all
set_option maxRecDepth 20000 in
theorem ggX1_leftIfSmudged_X1_isIn : GoodIn wsX1_leftIfSmudged wsX1_isIn := goodIn_r _ [10] (by decide +kernel) (by decide +kernel)
set_option maxRecDepth 20000 in
theorem gX1_leftIfSmudged_X1_isIn : GoodIn wsX1_leftIfSmudged (va_wsS RX1 33 yX1_isIn wsX1_isIn) := goodIn_app (goodIn_of _ (by decide +kernel)) ggX1_leftIfSmudged_X1_isIn
set_option maxRecDepth 20000 in
theorem ggX1_leftIfSmudged_X1_meeting : GoodIn wsX1_leftIfSmudged wsX1_meeting := goodIn_r _ [14, 2, 3, 4, 5, 6, 7, 15, 16, 17, 18, 19, 20, 21, 22, 23, 24, 29, 30, 31, 32, 33, 34, 35, 36, 37, 38] (by decide +kernel) (by decide +kernel)
set_option maxRecDepth 20000 in
theorem gX1_leftIfSmudged_X1_meeting : GoodIn wsX1_leftIfSmudged (wsV RX1 131 RX1 yX1_meeting wsX1_meeting) := goodIn_app (goodIn_of _ (by decide +kernel)) ggX1_leftIfSmudged_X1_meeting
set_option maxRecDepth 20000 in
theorem ggX1_leftIfSmudged_X1_no : GoodIn wsX1_leftIfSmudged wsX1_no := goodIn_r _ [28, 1, 29, 30, 31, 32, 33, 34, 35, 36, 37, 38] (by decide +kernel) (by decide +kernel)
set_option maxRecDepth 20000 in
theorem gX1_leftIfSmudged_X1_no : GoodIn wsX1_leftIfSmudged (wsV RX1 64 RX1 yX1_no wsX1_no) := goodIn_app (goodIn_of _ (by decide +kernel)) ggX1_leftIfSmudged_X1_no
theorem dX1_leftIfSmudged_0 : decode cX1_leftIfSmudged 0 = .ok (.aload_n 0, 1) := by decide +kernel
theorem dX1_leftIfSmudged_1 : decode cX1_leftIfSmudged 1 = .ok (.iconst 0, 1) := by decide +kernel
theorem dX1_leftIfSmudged_2 : decode cX1_leftIfSmudged 2 = .ok (.putfield 26, 3) := by decide +kernel
theorem dX1_leftIfSmudged_5 : decode cX1_leftIfSmudged 5 = .ok (.iload_n 1, 1) := by decide +kernel
theorem dX1_leftIfSmudged_6 : decode cX1_leftIfSmudged 6 = .ok (.iconst 1, 1) := by decide +kernel
theorem dX1_leftIfSmudged_7 : decode cX1_leftIfSmudged 7 = .ok (.aload_n 0, 1) := by decide +kernel
theorem dX1_leftIfSmudged_8 : decode cX1_leftIfSmudged 8 = .ok (.invokevirtual 47, 3) := by decide +kernel
theorem dX1_leftIfSmudged_11 : decode cX1_leftIfSmudged 11 = .ok (.invokestatic 33, 3) := by decide +kernel
theorem dX1_leftIfSmudged_14 : decode cX1_leftIfSmudged 14 = .ok (.ifCond .eq 11, 3) := by decide +kernel
theorem dX1_leftIfSmudged_17 : decode cX1_leftIfSmudged 17 = .ok (.aload_n 0, 1) := by decide +kernel
theorem dX1_leftIfSmudged_18 : decode cX1_leftIfSmudged 18 = .ok (.iload_n 1, 1) := by decide +kernel
theorem dX1_leftIfSmudged_19 : decode cX1_leftIfSmudged 19 = .ok (.invokevirtual 131, 3) := by decide +kernel
theorem dX1_leftIfSmudged_22 : decode cX1_leftIfSmudged 22 = .ok (.goto 8, 3) := by decide +kernel
theorem dX1_leftIfSmudged_25 : decode cX1_leftIfSmudged 25 = .ok (.aload_n 0, 1) := by decide +kernel
theorem dX1_leftIfSmudged_26 : decode cX1_leftIfSmudged 26 = .ok (.iconst 1, 1) := by decide +kernel
theorem dX1_leftIfSmudged_27 : decode cX1_leftIfSmudged 27 = .ok (.invokevirtual 64, 3) := by decide +kernel
theorem dX1_leftIfSmudged_30 : decode cX1_leftIfSmudged 30 = .ok (.ireturn, 1) := by decide +kernel
set_option maxRecDepth 20000 in
theorem ggX1_bestNight_X1_explaining : GoodIn wsX1_bestNight wsX1_explaining := goodIn_r _ [10, 11, 12, 13, 9, 14, 15, 16, 17, 18, 19, 20, 21, 22, 23, 24, 25, 30, 31, 32, 33, 34, 35, 36, 37, 38, 39] (by decide +kernel) (by decide +kernel)
set_option maxRecDepth 20000 in
theorem gX1_bestNight_X1_explaining : GoodIn wsX1_bestNight (wsV RX1 119 RX1 yX1_explaining wsX1_explaining) := goodIn_app (goodIn_of _ (by decide +kernel)) ggX1_bestNight_X1_explaining
set_option maxRecDepth 20000 in
theorem ggX1_bestNight_X1_all : GoodIn wsX1_bestNight wsX1_all := goodIn_r _ [14, 15, 30, 31, 32, 33, 34, 35, 36, 37, 38, 39] (by decide +kernel) (by decide +kernel)
set_option maxRecDepth 20000 in
theorem gX1_bestNight_X1_all : GoodIn wsX1_bestNight (wsV RX1 47 RX1 yX1_all wsX1_all) := goodIn_app (goodIn_of _ (by decide +kernel)) ggX1_bestNight_X1_all
set_option maxRecDepth 20000 in
theorem ggX1_bestNight_X1_meeting : GoodIn wsX1_bestNight wsX1_meeting := goodIn_r _ [29, 11, 12, 13, 9, 14, 15, 16, 17, 18, 19, 20, 21, 22, 23, 24, 25, 30, 31, 32, 33, 34, 35, 36, 37, 38, 39] (by decide +kernel) (by decide +kernel)
set_option maxRecDepth 20000 in
theorem gX1_bestNight_X1_meeting : GoodIn wsX1_bestNight (wsV RX1 131 RX1 yX1_meeting wsX1_meeting) := goodIn_app (goodIn_of _ (by decide +kernel)) ggX1_bestNight_X1_meeting
theorem dX1_bestNight_0 : decode cX1_bestNight 0 = .ok (.aload_n 0, 1) := by decide +kernel
theorem dX1_bestNight_1 : decode cX1_bestNight 1 = .ok (.iconst 0, 1) := by decide +kernel
theorem dX1_bestNight_2 : decode cX1_bestNight 2 = .ok (.putfield 26, 3) := by decide +kernel
theorem dX1_bestNight_5 : decode cX1_bestNight 5 = .ok (.aload_n 0, 1) := by decide +kernel
theorem dX1_bestNight_6 : decode cX1_bestNight 6 = .ok (.invokevirtual 119, 3) := by decide +kernel
theorem dX1_bestNight_9 : decode cX1_bestNight 9 = .ok (.istore_n 1, 1) := by decide +kernel
theorem dX1_bestNight_10 : decode cX1_bestNight 10 = .ok (.iconst (-1), 1) := by decide +kernel
theorem dX1_bestNight_11 : decode cX1_bestNight 11 = .ok (.istore_n 2, 1) := by decide +kernel
theorem dX1_bestNight_12 : decode cX1_bestNight 12 = .ok (.iconst 0, 1) := by decide +kernel
theorem dX1_bestNight_13 : decode cX1_bestNight 13 = .ok (.istore_n 3, 1) := by decide +kernel
theorem dX1_bestNight_14 : decode cX1_bestNight 14 = .ok (.iconst 1, 1) := by decide +kernel
theorem dX1_bestNight_15 : decode cX1_bestNight 15 = .ok (.istore 4, 2) := by decide +kernel
theorem dX1_bestNight_17 : decode cX1_bestNight 17 = .ok (.iload 4, 2) := by decide +kernel
theorem dX1_bestNight_19 : decode cX1_bestNight 19 = .ok (.aload_n 0, 1) := by decide +kernel
theorem dX1_bestNight_20 : decode cX1_bestNight 20 = .ok (.invokevirtual 47, 3) := by decide +kernel
theorem dX1_bestNight_23 : decode cX1_bestNight 23 = .ok (.if_icmp .gt 48, 3) := by decide +kernel
theorem dX1_bestNight_26 : decode cX1_bestNight 26 = .ok (.aload_n 0, 1) := by decide +kernel
theorem dX1_bestNight_27 : decode cX1_bestNight 27 = .ok (.iload 4, 2) := by decide +kernel
theorem dX1_bestNight_29 : decode cX1_bestNight 29 = .ok (.invokevirtual 131, 3) := by decide +kernel
theorem dX1_bestNight_32 : decode cX1_bestNight 32 = .ok (.istore 5, 2) := by decide +kernel
theorem dX1_bestNight_34 : decode cX1_bestNight 34 = .ok (.iload 5, 2) := by decide +kernel
theorem dX1_bestNight_36 : decode cX1_bestNight 36 = .ok (.iload_n 1, 1) := by decide +kernel
theorem dX1_bestNight_37 : decode cX1_bestNight 37 = .ok (.iload 5, 2) := by decide +kernel
theorem dX1_bestNight_39 : decode cX1_bestNight 39 = .ok (.isub, 1) := by decide +kernel
theorem dX1_bestNight_40 : decode cX1_bestNight 40 = .ok (.invokestatic 134, 3) := by decide +kernel
theorem dX1_bestNight_43 : decode cX1_bestNight 43 = .ok (.istore 6, 2) := by decide +kernel
theorem dX1_bestNight_45 : decode cX1_bestNight 45 = .ok (.iload_n 2, 1) := by decide +kernel
theorem dX1_bestNight_46 : decode cX1_bestNight 46 = .ok (.iconst (-1), 1) := by decide +kernel
theorem dX1_bestNight_47 : decode cX1_bestNight 47 = .ok (.if_icmp .eq 12, 3) := by decide +kernel
theorem dX1_bestNight_50 : decode cX1_bestNight 50 = .ok (.iload 6, 2) := by decide +kernel
theorem dX1_bestNight_52 : decode cX1_bestNight 52 = .ok (.iload_n 3, 1) := by decide +kernel
theorem dX1_bestNight_53 : decode cX1_bestNight 53 = .ok (.if_icmp .lt 6, 3) := by decide +kernel
theorem dX1_bestNight_56 : decode cX1_bestNight 56 = .ok (.goto 9, 3) := by decide +kernel
theorem dX1_bestNight_59 : decode cX1_bestNight 59 = .ok (.iload 4, 2) := by decide +kernel
theorem dX1_bestNight_61 : decode cX1_bestNight 61 = .ok (.istore_n 2, 1) := by decide +kernel
theorem dX1_bestNight_62 : decode cX1_bestNight 62 = .ok (.iload 6, 2) := by decide +kernel
theorem dX1_bestNight_64 : decode cX1_bestNight 64 = .ok (.istore_n 3, 1) := by decide +kernel
theorem dX1_bestNight_65 : decode cX1_bestNight 65 = .ok (.iinc 4 1, 3) := by decide +kernel
theorem dX1_bestNight_68 : decode cX1_bestNight 68 = .ok (.goto (-51), 3) := by decide +kernel
theorem dX1_bestNight_71 : decode cX1_bestNight 71 = .ok (.iload_n 2, 1) := by decide +kernel
theorem dX1_bestNight_72 : decode cX1_bestNight 72 = .ok (.ireturn, 1) := by decide +kernel
set_option maxRecDepth 20000 in
theorem ggX1_wouldChange_X1_all : GoodIn wsX1_wouldChange wsX1_all := goodIn_r _ [10, 11, 43, 44, 45, 46, 47, 48, 49, 50, 51, 52] (by decide +kernel) (by decide +kernel)
set_option maxRecDepth 20000 in
theorem gX1_wouldChange_X1_all : GoodIn wsX1_wouldChange (wsV RX1 47 RX1 yX1_all wsX1_all) := goodIn_app (goodIn_of _ (by decide +kernel)) ggX1_wouldChange_X1_all
set_option maxRecDepth 20000 in
theorem ggX1_wouldChange_X1_isIn : GoodIn wsX1_wouldChange wsX1_isIn := goodIn_r _ [14] (by decide +kernel) (by decide +kernel)
set_option maxRecDepth 20000 in
theorem gX1_wouldChange_X1_isIn : GoodIn wsX1_wouldChange (va_wsS RX1 33 yX1_isIn wsX1_isIn) := goodIn_app (goodIn_of _ (by decide +kernel)) ggX1_wouldChange_X1_isIn
set_option maxRecDepth 20000 in
theorem ggX1_wouldChange_X1_no : GoodIn wsX1_wouldChange wsX1_no := goodIn_r _ [18, 1, 43, 44, 45, 46, 47, 48, 49, 50, 51, 52] (by decide +kernel) (by decide +kernel)
set_option maxRecDepth 20000 in
theorem gX1_wouldChange_X1_no : GoodIn wsX1_wouldChange (wsV RX1 64 RX1 yX1_no wsX1_no) := goodIn_app (goodIn_of _ (by decide +kernel)) ggX1_wouldChange_X1_no
set_option maxRecDepth 20000 in
theorem ggX1_wouldChange_X1_put : GoodIn wsX1_wouldChange wsX1_put := goodIn_r _ [22, 23, 2, 24, 43, 44, 45, 46, 47, 48, 49, 50, 51, 52] (by decide +kernel) (by decide +kernel)
set_option maxRecDepth 20000 in
theorem gX1_wouldChange_X1_put : GoodIn wsX1_wouldChange (wsV RX1 75 RX1 yX1_put wsX1_put) := goodIn_app (goodIn_of _ (by decide +kernel)) ggX1_wouldChange_X1_put
set_option maxRecDepth 20000 in
theorem ggX1_wouldChange_X1_fewest : GoodIn wsX1_wouldChange wsX1_fewest := goodIn_r _ [28, 6, 7, 8, 9, 10, 11, 29, 30, 31, 32, 2, 23, 24, 33, 34, 35, 36, 37, 38, 39, 40, 41, 42, 43, 44, 45, 46, 47, 48, 49, 50, 51, 52] (by decide +kernel) (by decide +kernel)
set_option maxRecDepth 20000 in
theorem gX1_wouldChange_X1_fewest : GoodIn wsX1_wouldChange (wsV RX1 79 RX1 yX1_fewest wsX1_fewest) := goodIn_app (goodIn_of _ (by decide +kernel)) ggX1_wouldChange_X1_fewest
set_option maxRecDepth 20000 in
theorem ggX1_wouldChange_X1_explains : GoodIn wsX1_wouldChange wsX1_explains := goodIn_r _ [35] (by decide +kernel) (by decide +kernel)
set_option maxRecDepth 20000 in
theorem gX1_wouldChange_X1_explains : GoodIn wsX1_wouldChange (va_wsS RX1 43 yX1_explains wsX1_explains) := goodIn_app (goodIn_of _ (by decide +kernel)) ggX1_wouldChange_X1_explains
theorem dX1_wouldChange_0 : decode cX1_wouldChange 0 = .ok (.aload_n 0, 1) := by decide +kernel
theorem dX1_wouldChange_1 : decode cX1_wouldChange 1 = .ok (.iconst 0, 1) := by decide +kernel
theorem dX1_wouldChange_2 : decode cX1_wouldChange 2 = .ok (.putfield 26, 3) := by decide +kernel
theorem dX1_wouldChange_5 : decode cX1_wouldChange 5 = .ok (.iload_n 1, 1) := by decide +kernel
theorem dX1_wouldChange_6 : decode cX1_wouldChange 6 = .ok (.iconst 1, 1) := by decide +kernel
theorem dX1_wouldChange_7 : decode cX1_wouldChange 7 = .ok (.aload_n 0, 1) := by decide +kernel
theorem dX1_wouldChange_8 : decode cX1_wouldChange 8 = .ok (.invokevirtual 47, 3) := by decide +kernel
theorem dX1_wouldChange_11 : decode cX1_wouldChange 11 = .ok (.invokestatic 33, 3) := by decide +kernel
theorem dX1_wouldChange_14 : decode cX1_wouldChange 14 = .ok (.ifCond .ne 9, 3) := by decide +kernel
theorem dX1_wouldChange_17 : decode cX1_wouldChange 17 = .ok (.aload_n 0, 1) := by decide +kernel
theorem dX1_wouldChange_18 : decode cX1_wouldChange 18 = .ok (.iconst 1, 1) := by decide +kernel
theorem dX1_wouldChange_19 : decode cX1_wouldChange 19 = .ok (.invokevirtual 64, 3) := by decide +kernel
theorem dX1_wouldChange_22 : decode cX1_wouldChange 22 = .ok (.ireturn, 1) := by decide +kernel
theorem dX1_wouldChange_23 : decode cX1_wouldChange 23 = .ok (.aload_n 0, 1) := by decide +kernel
theorem dX1_wouldChange_24 : decode cX1_wouldChange 24 = .ok (.getfield 37, 3) := by decide +kernel
theorem dX1_wouldChange_27 : decode cX1_wouldChange 27 = .ok (.bipush 40, 2) := by decide +kernel
theorem dX1_wouldChange_29 : decode cX1_wouldChange 29 = .ok (.if_icmp .ne 9, 3) := by decide +kernel
theorem dX1_wouldChange_32 : decode cX1_wouldChange 32 = .ok (.aload_n 0, 1) := by decide +kernel
theorem dX1_wouldChange_33 : decode cX1_wouldChange 33 = .ok (.iconst 2, 1) := by decide +kernel
theorem dX1_wouldChange_34 : decode cX1_wouldChange 34 = .ok (.invokevirtual 64, 3) := by decide +kernel
theorem dX1_wouldChange_37 : decode cX1_wouldChange 37 = .ok (.ireturn, 1) := by decide +kernel
theorem dX1_wouldChange_38 : decode cX1_wouldChange 38 = .ok (.aload_n 0, 1) := by decide +kernel
theorem dX1_wouldChange_39 : decode cX1_wouldChange 39 = .ok (.iload_n 1, 1) := by decide +kernel
theorem dX1_wouldChange_40 : decode cX1_wouldChange 40 = .ok (.iload_n 2, 1) := by decide +kernel
theorem dX1_wouldChange_41 : decode cX1_wouldChange 41 = .ok (.invokevirtual 75, 3) := by decide +kernel
theorem dX1_wouldChange_44 : decode cX1_wouldChange 44 = .ok (.aload_n 0, 1) := by decide +kernel
theorem dX1_wouldChange_45 : decode cX1_wouldChange 45 = .ok (.invokevirtual 79, 3) := by decide +kernel
theorem dX1_wouldChange_48 : decode cX1_wouldChange 48 = .ok (.iconst (-1), 1) := by decide +kernel
theorem dX1_wouldChange_49 : decode cX1_wouldChange 49 = .ok (.if_icmp .eq 7, 3) := by decide +kernel
theorem dX1_wouldChange_52 : decode cX1_wouldChange 52 = .ok (.iconst 1, 1) := by decide +kernel
theorem dX1_wouldChange_53 : decode cX1_wouldChange 53 = .ok (.goto 4, 3) := by decide +kernel
theorem dX1_wouldChange_56 : decode cX1_wouldChange 56 = .ok (.iconst 0, 1) := by decide +kernel
theorem dX1_wouldChange_57 : decode cX1_wouldChange 57 = .ok (.istore_n 3, 1) := by decide +kernel
theorem dX1_wouldChange_58 : decode cX1_wouldChange 58 = .ok (.aload_n 0, 1) := by decide +kernel
theorem dX1_wouldChange_59 : decode cX1_wouldChange 59 = .ok (.dup, 1) := by decide +kernel
theorem dX1_wouldChange_60 : decode cX1_wouldChange 60 = .ok (.getfield 37, 3) := by decide +kernel
theorem dX1_wouldChange_63 : decode cX1_wouldChange 63 = .ok (.iconst 1, 1) := by decide +kernel
theorem dX1_wouldChange_64 : decode cX1_wouldChange 64 = .ok (.isub, 1) := by decide +kernel
theorem dX1_wouldChange_65 : decode cX1_wouldChange 65 = .ok (.putfield 37, 3) := by decide +kernel
theorem dX1_wouldChange_68 : decode cX1_wouldChange 68 = .ok (.iconst 0, 1) := by decide +kernel
theorem dX1_wouldChange_69 : decode cX1_wouldChange 69 = .ok (.istore 4, 2) := by decide +kernel
theorem dX1_wouldChange_71 : decode cX1_wouldChange 71 = .ok (.iconst 0, 1) := by decide +kernel
theorem dX1_wouldChange_72 : decode cX1_wouldChange 72 = .ok (.istore 5, 2) := by decide +kernel
theorem dX1_wouldChange_74 : decode cX1_wouldChange 74 = .ok (.iload 5, 2) := by decide +kernel
theorem dX1_wouldChange_76 : decode cX1_wouldChange 76 = .ok (.aload_n 0, 1) := by decide +kernel
theorem dX1_wouldChange_77 : decode cX1_wouldChange 77 = .ok (.getfield 40, 3) := by decide +kernel
theorem dX1_wouldChange_80 : decode cX1_wouldChange 80 = .ok (.if_icmp .ge 48, 3) := by decide +kernel
theorem dX1_wouldChange_83 : decode cX1_wouldChange 83 = .ok (.iload 4, 2) := by decide +kernel
theorem dX1_wouldChange_85 : decode cX1_wouldChange 85 = .ok (.iload_n 3, 1) := by decide +kernel
theorem dX1_wouldChange_86 : decode cX1_wouldChange 86 = .ok (.ifCond .eq 32, 3) := by decide +kernel
theorem dX1_wouldChange_89 : decode cX1_wouldChange 89 = .ok (.aload_n 0, 1) := by decide +kernel
theorem dX1_wouldChange_90 : decode cX1_wouldChange 90 = .ok (.getfield 20, 3) := by decide +kernel
theorem dX1_wouldChange_93 : decode cX1_wouldChange 93 = .ok (.iload 5, 2) := by decide +kernel
theorem dX1_wouldChange_95 : decode cX1_wouldChange 95 = .ok (.iaload, 1) := by decide +kernel
theorem dX1_wouldChange_96 : decode cX1_wouldChange 96 = .ok (.ifCond .ne 22, 3) := by decide +kernel
theorem dX1_wouldChange_99 : decode cX1_wouldChange 99 = .ok (.aload_n 0, 1) := by decide +kernel
theorem dX1_wouldChange_100 : decode cX1_wouldChange 100 = .ok (.getfield 23, 3) := by decide +kernel
theorem dX1_wouldChange_103 : decode cX1_wouldChange 103 = .ok (.iload 5, 2) := by decide +kernel
theorem dX1_wouldChange_105 : decode cX1_wouldChange 105 = .ok (.iaload, 1) := by decide +kernel
theorem dX1_wouldChange_106 : decode cX1_wouldChange 106 = .ok (.iload_n 1, 1) := by decide +kernel
theorem dX1_wouldChange_107 : decode cX1_wouldChange 107 = .ok (.iload_n 2, 1) := by decide +kernel
theorem dX1_wouldChange_108 : decode cX1_wouldChange 108 = .ok (.invokestatic 43, 3) := by decide +kernel
theorem dX1_wouldChange_111 : decode cX1_wouldChange 111 = .ok (.ifCond .ne 7, 3) := by decide +kernel
theorem dX1_wouldChange_114 : decode cX1_wouldChange 114 = .ok (.iconst 1, 1) := by decide +kernel
theorem dX1_wouldChange_115 : decode cX1_wouldChange 115 = .ok (.goto 4, 3) := by decide +kernel
theorem dX1_wouldChange_118 : decode cX1_wouldChange 118 = .ok (.iconst 0, 1) := by decide +kernel
theorem dX1_wouldChange_119 : decode cX1_wouldChange 119 = .ok (.iadd, 1) := by decide +kernel
theorem dX1_wouldChange_120 : decode cX1_wouldChange 120 = .ok (.istore 4, 2) := by decide +kernel
theorem dX1_wouldChange_122 : decode cX1_wouldChange 122 = .ok (.iinc 5 1, 3) := by decide +kernel
theorem dX1_wouldChange_125 : decode cX1_wouldChange 125 = .ok (.goto (-51), 3) := by decide +kernel
theorem dX1_wouldChange_128 : decode cX1_wouldChange 128 = .ok (.iload 4, 2) := by decide +kernel
theorem dX1_wouldChange_130 : decode cX1_wouldChange 130 = .ok (.ireturn, 1) := by decide +kernel
set_option maxRecDepth 20000 in
theorem ggX1_meanBlame_J6_bitCount_0f7a4 : GoodIn wsX1_meanBlame wsJ6_bitCount_0f7a4 := goodIn_r _ [7, 8, 9, 10] (by decide +kernel) (by decide +kernel)
set_option maxRecDepth 20000 in
theorem gX1_meanBlame_J6_bitCount_0f7a4 : GoodIn wsX1_meanBlame (va_wsS RX1 55 yJ6_bitCount_0f7a4 wsJ6_bitCount_0f7a4) := goodIn_app (goodIn_of _ (by decide +kernel)) ggX1_meanBlame_J6_bitCount_0f7a4
theorem dX1_meanBlame_0 : decode cX1_meanBlame 0 = .ok (.aload_n 0, 1) := by decide +kernel
theorem dX1_meanBlame_1 : decode cX1_meanBlame 1 = .ok (.iconst 0, 1) := by decide +kernel
theorem dX1_meanBlame_2 : decode cX1_meanBlame 2 = .ok (.putfield 26, 3) := by decide +kernel
theorem dX1_meanBlame_5 : decode cX1_meanBlame 5 = .ok (.iconst 0, 1) := by decide +kernel
theorem dX1_meanBlame_6 : decode cX1_meanBlame 6 = .ok (.istore_n 1, 1) := by decide +kernel
theorem dX1_meanBlame_7 : decode cX1_meanBlame 7 = .ok (.iconst 0, 1) := by decide +kernel
theorem dX1_meanBlame_8 : decode cX1_meanBlame 8 = .ok (.istore_n 2, 1) := by decide +kernel
theorem dX1_meanBlame_9 : decode cX1_meanBlame 9 = .ok (.iload_n 2, 1) := by decide +kernel
theorem dX1_meanBlame_10 : decode cX1_meanBlame 10 = .ok (.aload_n 0, 1) := by decide +kernel
theorem dX1_meanBlame_11 : decode cX1_meanBlame 11 = .ok (.getfield 40, 3) := by decide +kernel
theorem dX1_meanBlame_14 : decode cX1_meanBlame 14 = .ok (.if_icmp .ge 21, 3) := by decide +kernel
theorem dX1_meanBlame_17 : decode cX1_meanBlame 17 = .ok (.iload_n 1, 1) := by decide +kernel
theorem dX1_meanBlame_18 : decode cX1_meanBlame 18 = .ok (.aload_n 0, 1) := by decide +kernel
theorem dX1_meanBlame_19 : decode cX1_meanBlame 19 = .ok (.getfield 23, 3) := by decide +kernel
theorem dX1_meanBlame_22 : decode cX1_meanBlame 22 = .ok (.iload_n 2, 1) := by decide +kernel
theorem dX1_meanBlame_23 : decode cX1_meanBlame 23 = .ok (.iaload, 1) := by decide +kernel
theorem dX1_meanBlame_24 : decode cX1_meanBlame 24 = .ok (.invokestatic 55, 3) := by decide +kernel
theorem dX1_meanBlame_27 : decode cX1_meanBlame 27 = .ok (.iadd, 1) := by decide +kernel
theorem dX1_meanBlame_28 : decode cX1_meanBlame 28 = .ok (.istore_n 1, 1) := by decide +kernel
theorem dX1_meanBlame_29 : decode cX1_meanBlame 29 = .ok (.iinc 2 1, 3) := by decide +kernel
theorem dX1_meanBlame_32 : decode cX1_meanBlame 32 = .ok (.goto (-23), 3) := by decide +kernel
theorem dX1_meanBlame_35 : decode cX1_meanBlame 35 = .ok (.aload_n 0, 1) := by decide +kernel
theorem dX1_meanBlame_36 : decode cX1_meanBlame 36 = .ok (.getfield 40, 3) := by decide +kernel
theorem dX1_meanBlame_39 : decode cX1_meanBlame 39 = .ok (.ifCond .ne 7, 3) := by decide +kernel
theorem dX1_meanBlame_42 : decode cX1_meanBlame 42 = .ok (.dconst 0, 1) := by decide +kernel
theorem dX1_meanBlame_43 : decode cX1_meanBlame 43 = .ok (.goto 11, 3) := by decide +kernel
theorem dX1_meanBlame_46 : decode cX1_meanBlame 46 = .ok (.iload_n 1, 1) := by decide +kernel
theorem dX1_meanBlame_47 : decode cX1_meanBlame 47 = .ok (.i2d, 1) := by decide +kernel
theorem dX1_meanBlame_48 : decode cX1_meanBlame 48 = .ok (.aload_n 0, 1) := by decide +kernel
theorem dX1_meanBlame_49 : decode cX1_meanBlame 49 = .ok (.getfield 40, 3) := by decide +kernel
theorem dX1_meanBlame_52 : decode cX1_meanBlame 52 = .ok (.i2d, 1) := by decide +kernel
theorem dX1_meanBlame_53 : decode cX1_meanBlame 53 = .ok (.ddiv, 1) := by decide +kernel
theorem dX1_meanBlame_54 : decode cX1_meanBlame 54 = .ok (.dreturn, 1) := by decide +kernel
theorem dX1_one_0 : decode cX1_one 0 = .ok (.iload_n 0, 1) := by decide +kernel
theorem dX1_one_1 : decode cX1_one 1 = .ok (.ifCond .eq 7, 3) := by decide +kernel
theorem dX1_one_4 : decode cX1_one 4 = .ok (.iconst 1, 1) := by decide +kernel
theorem dX1_one_5 : decode cX1_one 5 = .ok (.goto 4, 3) := by decide +kernel
theorem dX1_one_8 : decode cX1_one 8 = .ok (.iconst 0, 1) := by decide +kernel
theorem dX1_one_9 : decode cX1_one 9 = .ok (.ireturn, 1) := by decide +kernel
set_option maxRecDepth 20000 in
theorem ggX1_digest_X1_smudgesNow : GoodIn wsX1_digest wsX1_smudgesNow := goodIn_r _ [17, 4, 10, 78, 79, 80, 81, 82, 83, 84, 85, 86, 87] (by decide +kernel) (by decide +kernel)
set_option maxRecDepth 20000 in
theorem gX1_digest_X1_smudgesNow : GoodIn wsX1_digest (wsV RX1 110 RX1 yX1_smudgesNow wsX1_smudgesNow) := goodIn_app (goodIn_of _ (by decide +kernel)) ggX1_digest_X1_smudgesNow
set_option maxRecDepth 20000 in
theorem ggX1_digest_X1_fewest : GoodIn wsX1_digest wsX1_fewest := goodIn_r _ [21, 22, 23, 24, 16, 25, 3, 26, 27, 28, 29, 4, 9, 10, 30, 31, 32, 33, 34, 35, 36, 37, 38, 39, 78, 79, 80, 81, 82, 83, 84, 85, 86, 87] (by decide +kernel) (by decide +kernel)
set_option maxRecDepth 20000 in
theorem gX1_digest_X1_fewest : GoodIn wsX1_digest (wsV RX1 79 RX1 yX1_fewest wsX1_fewest) := goodIn_app (goodIn_of _ (by decide +kernel)) ggX1_digest_X1_fewest
set_option maxRecDepth 20000 in
theorem ggX1_digest_X1_one : GoodIn wsX1_digest wsX1_one := goodIn_r _ [42] (by decide +kernel) (by decide +kernel)
set_option maxRecDepth 20000 in
theorem gX1_digest_X1_one : GoodIn wsX1_digest (va_wsS RX1 137 yX1_one wsX1_one) := goodIn_app (goodIn_of _ (by decide +kernel)) ggX1_digest_X1_one
set_option maxRecDepth 20000 in
theorem ggX1_digest_X1_voted : GoodIn wsX1_digest wsX1_voted := goodIn_r _ [46, 3, 5, 47, 48, 49, 16, 50, 11, 51, 52, 53, 78, 79, 80, 81, 82, 83, 84, 85, 86, 87] (by decide +kernel) (by decide +kernel)
set_option maxRecDepth 20000 in
theorem gX1_digest_X1_voted : GoodIn wsX1_digest (wsV RX1 116 RX1 yX1_voted wsX1_voted) := goodIn_app (goodIn_of _ (by decide +kernel)) ggX1_digest_X1_voted
set_option maxRecDepth 20000 in
theorem ggX1_digest_X1_explaining : GoodIn wsX1_digest wsX1_explaining := goodIn_r _ [57, 22, 23, 24, 16, 25, 3, 26, 27, 28, 29, 4, 9, 10, 30, 31, 32, 78, 79, 80, 81, 82, 83, 84, 85, 86, 87] (by decide +kernel) (by decide +kernel)
set_option maxRecDepth 20000 in
theorem gX1_digest_X1_explaining : GoodIn wsX1_digest (wsV RX1 119 RX1 yX1_explaining wsX1_explaining) := goodIn_app (goodIn_of _ (by decide +kernel)) ggX1_digest_X1_explaining
set_option maxRecDepth 20000 in
theorem ggX1_digest_X1_inAll : GoodIn wsX1_digest wsX1_inAll := goodIn_r _ [61, 22, 23, 24, 16, 25, 3, 26, 27, 28, 29, 4, 9, 10, 30, 31, 32, 78, 79, 80, 81, 82, 83, 84, 85, 86, 87] (by decide +kernel) (by decide +kernel)
set_option maxRecDepth 20000 in
theorem gX1_digest_X1_inAll : GoodIn wsX1_digest (wsV RX1 122 RX1 yX1_inAll wsX1_inAll) := goodIn_app (goodIn_of _ (by decide +kernel)) ggX1_digest_X1_inAll
set_option maxRecDepth 20000 in
theorem ggX1_digest_X1_nightsOf : GoodIn wsX1_digest wsX1_nightsOf := goodIn_r _ [65, 4, 9, 10, 51, 52, 16, 53, 78, 79, 80, 81, 82, 83, 84, 85, 86, 87] (by decide +kernel) (by decide +kernel)
set_option maxRecDepth 20000 in
theorem gX1_digest_X1_nightsOf : GoodIn wsX1_digest (wsV RX1 94 RX1 yX1_nightsOf wsX1_nightsOf) := goodIn_app (goodIn_of _ (by decide +kernel)) ggX1_digest_X1_nightsOf
set_option maxRecDepth 20000 in
theorem ggX1_digest_X1_cleared : GoodIn wsX1_digest wsX1_cleared := goodIn_r _ [69, 4, 10, 9, 78, 79, 80, 81, 82, 83, 84, 85, 86, 87] (by decide +kernel) (by decide +kernel)
set_option maxRecDepth 20000 in
theorem gX1_digest_X1_cleared : GoodIn wsX1_digest (wsV RX1 98 RX1 yX1_cleared wsX1_cleared) := goodIn_app (goodIn_of _ (by decide +kernel)) ggX1_digest_X1_cleared
set_option maxRecDepth 20000 in
theorem ggX1_digest_X1_has : GoodIn wsX1_digest wsX1_has := goodIn_r _ [53] (by decide +kernel) (by decide +kernel)
set_option maxRecDepth 20000 in
theorem gX1_digest_X1_has : GoodIn wsX1_digest (va_wsS RX1 60 yX1_has wsX1_has) := goodIn_app (goodIn_of _ (by decide +kernel)) ggX1_digest_X1_has
set_option maxRecDepth 20000 in
theorem ggX1_digest_X1_proved : GoodIn wsX1_digest wsX1_proved := goodIn_r _ [73, 4, 10, 9, 66, 67, 68, 16, 69, 51, 52, 53, 78, 79, 80, 81, 82, 83, 84, 85, 86, 87] (by decide +kernel) (by decide +kernel)
set_option maxRecDepth 20000 in
theorem gX1_digest_X1_proved : GoodIn wsX1_digest (wsV RX1 104 RX1 yX1_proved wsX1_proved) := goodIn_app (goodIn_of _ (by decide +kernel)) ggX1_digest_X1_proved
set_option maxRecDepth 20000 in
theorem ggX1_digest_X1_withThing : GoodIn wsX1_digest wsX1_withThing := goodIn_r _ [77, 22, 23, 24, 16, 25, 3, 51, 52, 53, 26, 27, 28, 29, 4, 9, 10, 30, 31, 32, 78, 79, 80, 81, 82, 83, 84, 85, 86, 87] (by decide +kernel) (by decide +kernel)
set_option maxRecDepth 20000 in
theorem gX1_digest_X1_withThing : GoodIn wsX1_digest (wsV RX1 107 RX1 yX1_withThing wsX1_withThing) := goodIn_app (goodIn_of _ (by decide +kernel)) ggX1_digest_X1_withThing
set_option maxRecDepth 20000 in
theorem ggX1_digest_X1_votes : GoodIn wsX1_digest wsX1_votes := goodIn_r _ [50, 5, 11, 51, 52, 16, 53, 78, 79, 80, 81, 82, 83, 84, 85, 86, 87] (by decide +kernel) (by decide +kernel)
set_option maxRecDepth 20000 in
theorem gX1_digest_X1_votes : GoodIn wsX1_digest (wsV RX1 113 RX1 yX1_votes wsX1_votes) := goodIn_app (goodIn_of _ (by decide +kernel)) ggX1_digest_X1_votes
set_option maxRecDepth 20000 in
theorem ggX1_digest_X1_unexplained : GoodIn wsX1_digest wsX1_unexplained := goodIn_r _ [29, 4, 9, 10, 30, 31, 16, 32, 78, 79, 80, 81, 82, 83, 84, 85, 86, 87] (by decide +kernel) (by decide +kernel)
set_option maxRecDepth 20000 in
theorem gX1_digest_X1_unexplained : GoodIn wsX1_digest (wsV RX1 51 RX1 yX1_unexplained wsX1_unexplained) := goodIn_app (goodIn_of _ (by decide +kernel)) ggX1_digest_X1_unexplained
theorem dX1_digest_0 : decode cX1_digest 0 = .ok (.aload_n 0, 1) := by decide +kernel
theorem dX1_digest_1 : decode cX1_digest 1 = .ok (.iconst 0, 1) := by decide +kernel
theorem dX1_digest_2 : decode cX1_digest 2 = .ok (.putfield 26, 3) := by decide +kernel
theorem dX1_digest_5 : decode cX1_digest 5 = .ok (.bipush 10, 2) := by decide +kernel
theorem dX1_digest_7 : decode cX1_digest 7 = .ok (.newarray .int, 2) := by decide +kernel
theorem dX1_digest_9 : decode cX1_digest 9 = .ok (.dup, 1) := by decide +kernel
theorem dX1_digest_10 : decode cX1_digest 10 = .ok (.iconst 0, 1) := by decide +kernel
theorem dX1_digest_11 : decode cX1_digest 11 = .ok (.aload_n 0, 1) := by decide +kernel
theorem dX1_digest_12 : decode cX1_digest 12 = .ok (.getfield 30, 3) := by decide +kernel
theorem dX1_digest_15 : decode cX1_digest 15 = .ok (.iastore, 1) := by decide +kernel
theorem dX1_digest_16 : decode cX1_digest 16 = .ok (.dup, 1) := by decide +kernel
theorem dX1_digest_17 : decode cX1_digest 17 = .ok (.iconst 1, 1) := by decide +kernel
theorem dX1_digest_18 : decode cX1_digest 18 = .ok (.aload_n 0, 1) := by decide +kernel
theorem dX1_digest_19 : decode cX1_digest 19 = .ok (.getfield 37, 3) := by decide +kernel
theorem dX1_digest_22 : decode cX1_digest 22 = .ok (.iastore, 1) := by decide +kernel
theorem dX1_digest_23 : decode cX1_digest 23 = .ok (.dup, 1) := by decide +kernel
theorem dX1_digest_24 : decode cX1_digest 24 = .ok (.iconst 2, 1) := by decide +kernel
theorem dX1_digest_25 : decode cX1_digest 25 = .ok (.aload_n 0, 1) := by decide +kernel
theorem dX1_digest_26 : decode cX1_digest 26 = .ok (.invokevirtual 110, 3) := by decide +kernel
theorem dX1_digest_29 : decode cX1_digest 29 = .ok (.iastore, 1) := by decide +kernel
theorem dX1_digest_30 : decode cX1_digest 30 = .ok (.dup, 1) := by decide +kernel
theorem dX1_digest_31 : decode cX1_digest 31 = .ok (.iconst 3, 1) := by decide +kernel
theorem dX1_digest_32 : decode cX1_digest 32 = .ok (.aload_n 0, 1) := by decide +kernel
theorem dX1_digest_33 : decode cX1_digest 33 = .ok (.invokevirtual 79, 3) := by decide +kernel
theorem dX1_digest_36 : decode cX1_digest 36 = .ok (.iconst (-1), 1) := by decide +kernel
theorem dX1_digest_37 : decode cX1_digest 37 = .ok (.if_icmp .eq 7, 3) := by decide +kernel
theorem dX1_digest_40 : decode cX1_digest 40 = .ok (.iconst 1, 1) := by decide +kernel
theorem dX1_digest_41 : decode cX1_digest 41 = .ok (.goto 4, 3) := by decide +kernel
theorem dX1_digest_44 : decode cX1_digest 44 = .ok (.iconst 0, 1) := by decide +kernel
theorem dX1_digest_45 : decode cX1_digest 45 = .ok (.invokestatic 137, 3) := by decide +kernel
theorem dX1_digest_48 : decode cX1_digest 48 = .ok (.iastore, 1) := by decide +kernel
theorem dX1_digest_49 : decode cX1_digest 49 = .ok (.dup, 1) := by decide +kernel
theorem dX1_digest_50 : decode cX1_digest 50 = .ok (.iconst 4, 1) := by decide +kernel
theorem dX1_digest_51 : decode cX1_digest 51 = .ok (.aload_n 0, 1) := by decide +kernel
theorem dX1_digest_52 : decode cX1_digest 52 = .ok (.getfield 40, 3) := by decide +kernel
theorem dX1_digest_55 : decode cX1_digest 55 = .ok (.iastore, 1) := by decide +kernel
theorem dX1_digest_56 : decode cX1_digest 56 = .ok (.dup, 1) := by decide +kernel
theorem dX1_digest_57 : decode cX1_digest 57 = .ok (.iconst 5, 1) := by decide +kernel
theorem dX1_digest_58 : decode cX1_digest 58 = .ok (.aload_n 0, 1) := by decide +kernel
theorem dX1_digest_59 : decode cX1_digest 59 = .ok (.invokevirtual 116, 3) := by decide +kernel
theorem dX1_digest_62 : decode cX1_digest 62 = .ok (.iastore, 1) := by decide +kernel
theorem dX1_digest_63 : decode cX1_digest 63 = .ok (.dup, 1) := by decide +kernel
theorem dX1_digest_64 : decode cX1_digest 64 = .ok (.bipush 6, 2) := by decide +kernel
theorem dX1_digest_66 : decode cX1_digest 66 = .ok (.aload_n 0, 1) := by decide +kernel
theorem dX1_digest_67 : decode cX1_digest 67 = .ok (.getfield 82, 3) := by decide +kernel
theorem dX1_digest_70 : decode cX1_digest 70 = .ok (.iastore, 1) := by decide +kernel
theorem dX1_digest_71 : decode cX1_digest 71 = .ok (.dup, 1) := by decide +kernel
theorem dX1_digest_72 : decode cX1_digest 72 = .ok (.bipush 7, 2) := by decide +kernel
theorem dX1_digest_74 : decode cX1_digest 74 = .ok (.aload_n 0, 1) := by decide +kernel
theorem dX1_digest_75 : decode cX1_digest 75 = .ok (.invokevirtual 119, 3) := by decide +kernel
theorem dX1_digest_78 : decode cX1_digest 78 = .ok (.iastore, 1) := by decide +kernel
theorem dX1_digest_79 : decode cX1_digest 79 = .ok (.dup, 1) := by decide +kernel
theorem dX1_digest_80 : decode cX1_digest 80 = .ok (.bipush 8, 2) := by decide +kernel
theorem dX1_digest_82 : decode cX1_digest 82 = .ok (.aload_n 0, 1) := by decide +kernel
theorem dX1_digest_83 : decode cX1_digest 83 = .ok (.invokevirtual 79, 3) := by decide +kernel
theorem dX1_digest_86 : decode cX1_digest 86 = .ok (.iastore, 1) := by decide +kernel
theorem dX1_digest_87 : decode cX1_digest 87 = .ok (.dup, 1) := by decide +kernel
theorem dX1_digest_88 : decode cX1_digest 88 = .ok (.bipush 9, 2) := by decide +kernel
theorem dX1_digest_90 : decode cX1_digest 90 = .ok (.aload_n 0, 1) := by decide +kernel
theorem dX1_digest_91 : decode cX1_digest 91 = .ok (.invokevirtual 122, 3) := by decide +kernel
theorem dX1_digest_94 : decode cX1_digest 94 = .ok (.iastore, 1) := by decide +kernel
theorem dX1_digest_95 : decode cX1_digest 95 = .ok (.astore_n 1, 1) := by decide +kernel
theorem dX1_digest_96 : decode cX1_digest 96 = .ok (.ldc2_w 141, 3) := by decide +kernel
theorem dX1_digest_99 : decode cX1_digest 99 = .ok (.lstore_n 2, 1) := by decide +kernel
theorem dX1_digest_100 : decode cX1_digest 100 = .ok (.aload_n 1, 1) := by decide +kernel
theorem dX1_digest_101 : decode cX1_digest 101 = .ok (.astore 4, 2) := by decide +kernel
theorem dX1_digest_103 : decode cX1_digest 103 = .ok (.aload 4, 2) := by decide +kernel
theorem dX1_digest_105 : decode cX1_digest 105 = .ok (.arraylength, 1) := by decide +kernel
theorem dX1_digest_106 : decode cX1_digest 106 = .ok (.istore 5, 2) := by decide +kernel
theorem dX1_digest_108 : decode cX1_digest 108 = .ok (.iconst 0, 1) := by decide +kernel
theorem dX1_digest_109 : decode cX1_digest 109 = .ok (.istore 6, 2) := by decide +kernel
theorem dX1_digest_111 : decode cX1_digest 111 = .ok (.iload 6, 2) := by decide +kernel
theorem dX1_digest_113 : decode cX1_digest 113 = .ok (.iload 5, 2) := by decide +kernel
theorem dX1_digest_115 : decode cX1_digest 115 = .ok (.if_icmp .ge 26, 3) := by decide +kernel
theorem dX1_digest_118 : decode cX1_digest 118 = .ok (.aload 4, 2) := by decide +kernel
theorem dX1_digest_120 : decode cX1_digest 120 = .ok (.iload 6, 2) := by decide +kernel
theorem dX1_digest_122 : decode cX1_digest 122 = .ok (.iaload, 1) := by decide +kernel
theorem dX1_digest_123 : decode cX1_digest 123 = .ok (.istore 7, 2) := by decide +kernel
theorem dX1_digest_125 : decode cX1_digest 125 = .ok (.lload_n 2, 1) := by decide +kernel
theorem dX1_digest_126 : decode cX1_digest 126 = .ok (.ldc2_w 143, 3) := by decide +kernel
theorem dX1_digest_129 : decode cX1_digest 129 = .ok (.lmul, 1) := by decide +kernel
theorem dX1_digest_130 : decode cX1_digest 130 = .ok (.iload 7, 2) := by decide +kernel
theorem dX1_digest_132 : decode cX1_digest 132 = .ok (.i2l, 1) := by decide +kernel
theorem dX1_digest_133 : decode cX1_digest 133 = .ok (.ladd, 1) := by decide +kernel
theorem dX1_digest_134 : decode cX1_digest 134 = .ok (.lstore_n 2, 1) := by decide +kernel
theorem dX1_digest_135 : decode cX1_digest 135 = .ok (.iinc 6 1, 3) := by decide +kernel
theorem dX1_digest_138 : decode cX1_digest 138 = .ok (.goto (-27), 3) := by decide +kernel
theorem dX1_digest_141 : decode cX1_digest 141 = .ok (.iconst 0, 1) := by decide +kernel
theorem dX1_digest_142 : decode cX1_digest 142 = .ok (.istore 4, 2) := by decide +kernel
theorem dX1_digest_144 : decode cX1_digest 144 = .ok (.iload 4, 2) := by decide +kernel
theorem dX1_digest_146 : decode cX1_digest 146 = .ok (.aload_n 0, 1) := by decide +kernel
theorem dX1_digest_147 : decode cX1_digest 147 = .ok (.getfield 30, 3) := by decide +kernel
theorem dX1_digest_150 : decode cX1_digest 150 = .ok (.if_icmp .ge 122, 3) := by decide +kernel
theorem dX1_digest_153 : decode cX1_digest 153 = .ok (.bipush 6, 2) := by decide +kernel
theorem dX1_digest_155 : decode cX1_digest 155 = .ok (.newarray .int, 2) := by decide +kernel
theorem dX1_digest_157 : decode cX1_digest 157 = .ok (.dup, 1) := by decide +kernel
theorem dX1_digest_158 : decode cX1_digest 158 = .ok (.iconst 0, 1) := by decide +kernel
theorem dX1_digest_159 : decode cX1_digest 159 = .ok (.aload_n 0, 1) := by decide +kernel
theorem dX1_digest_160 : decode cX1_digest 160 = .ok (.iload 4, 2) := by decide +kernel
theorem dX1_digest_162 : decode cX1_digest 162 = .ok (.iconst 0, 1) := by decide +kernel
theorem dX1_digest_163 : decode cX1_digest 163 = .ok (.invokevirtual 94, 3) := by decide +kernel
theorem dX1_digest_166 : decode cX1_digest 166 = .ok (.iastore, 1) := by decide +kernel
theorem dX1_digest_167 : decode cX1_digest 167 = .ok (.dup, 1) := by decide +kernel
theorem dX1_digest_168 : decode cX1_digest 168 = .ok (.iconst 1, 1) := by decide +kernel
theorem dX1_digest_169 : decode cX1_digest 169 = .ok (.aload_n 0, 1) := by decide +kernel
theorem dX1_digest_170 : decode cX1_digest 170 = .ok (.iload 4, 2) := by decide +kernel
theorem dX1_digest_172 : decode cX1_digest 172 = .ok (.iconst 1, 1) := by decide +kernel
theorem dX1_digest_173 : decode cX1_digest 173 = .ok (.invokevirtual 94, 3) := by decide +kernel
theorem dX1_digest_176 : decode cX1_digest 176 = .ok (.iastore, 1) := by decide +kernel
theorem dX1_digest_177 : decode cX1_digest 177 = .ok (.dup, 1) := by decide +kernel
theorem dX1_digest_178 : decode cX1_digest 178 = .ok (.iconst 2, 1) := by decide +kernel
theorem dX1_digest_179 : decode cX1_digest 179 = .ok (.aload_n 0, 1) := by decide +kernel
theorem dX1_digest_180 : decode cX1_digest 180 = .ok (.invokevirtual 98, 3) := by decide +kernel
theorem dX1_digest_183 : decode cX1_digest 183 = .ok (.iload 4, 2) := by decide +kernel
theorem dX1_digest_185 : decode cX1_digest 185 = .ok (.invokestatic 60, 3) := by decide +kernel
theorem dX1_digest_188 : decode cX1_digest 188 = .ok (.invokestatic 137, 3) := by decide +kernel
theorem dX1_digest_191 : decode cX1_digest 191 = .ok (.iastore, 1) := by decide +kernel
theorem dX1_digest_192 : decode cX1_digest 192 = .ok (.dup, 1) := by decide +kernel
theorem dX1_digest_193 : decode cX1_digest 193 = .ok (.iconst 3, 1) := by decide +kernel
theorem dX1_digest_194 : decode cX1_digest 194 = .ok (.aload_n 0, 1) := by decide +kernel
theorem dX1_digest_195 : decode cX1_digest 195 = .ok (.iload 4, 2) := by decide +kernel
theorem dX1_digest_197 : decode cX1_digest 197 = .ok (.invokevirtual 104, 3) := by decide +kernel
theorem dX1_digest_200 : decode cX1_digest 200 = .ok (.invokestatic 137, 3) := by decide +kernel
theorem dX1_digest_203 : decode cX1_digest 203 = .ok (.iastore, 1) := by decide +kernel
theorem dX1_digest_204 : decode cX1_digest 204 = .ok (.dup, 1) := by decide +kernel
theorem dX1_digest_205 : decode cX1_digest 205 = .ok (.iconst 4, 1) := by decide +kernel
theorem dX1_digest_206 : decode cX1_digest 206 = .ok (.aload_n 0, 1) := by decide +kernel
theorem dX1_digest_207 : decode cX1_digest 207 = .ok (.iload 4, 2) := by decide +kernel
theorem dX1_digest_209 : decode cX1_digest 209 = .ok (.invokevirtual 107, 3) := by decide +kernel
theorem dX1_digest_212 : decode cX1_digest 212 = .ok (.iastore, 1) := by decide +kernel
theorem dX1_digest_213 : decode cX1_digest 213 = .ok (.dup, 1) := by decide +kernel
theorem dX1_digest_214 : decode cX1_digest 214 = .ok (.iconst 5, 1) := by decide +kernel
theorem dX1_digest_215 : decode cX1_digest 215 = .ok (.aload_n 0, 1) := by decide +kernel
theorem dX1_digest_216 : decode cX1_digest 216 = .ok (.iload 4, 2) := by decide +kernel
theorem dX1_digest_218 : decode cX1_digest 218 = .ok (.invokevirtual 113, 3) := by decide +kernel
theorem dX1_digest_221 : decode cX1_digest 221 = .ok (.iastore, 1) := by decide +kernel
theorem dX1_digest_222 : decode cX1_digest 222 = .ok (.astore 5, 2) := by decide +kernel
theorem dX1_digest_224 : decode cX1_digest 224 = .ok (.aload 5, 2) := by decide +kernel
theorem dX1_digest_226 : decode cX1_digest 226 = .ok (.astore 6, 2) := by decide +kernel
theorem dX1_digest_228 : decode cX1_digest 228 = .ok (.aload 6, 2) := by decide +kernel
theorem dX1_digest_230 : decode cX1_digest 230 = .ok (.arraylength, 1) := by decide +kernel
theorem dX1_digest_231 : decode cX1_digest 231 = .ok (.istore 7, 2) := by decide +kernel
theorem dX1_digest_233 : decode cX1_digest 233 = .ok (.iconst 0, 1) := by decide +kernel
theorem dX1_digest_234 : decode cX1_digest 234 = .ok (.istore 8, 2) := by decide +kernel
theorem dX1_digest_236 : decode cX1_digest 236 = .ok (.iload 8, 2) := by decide +kernel
theorem dX1_digest_238 : decode cX1_digest 238 = .ok (.iload 7, 2) := by decide +kernel
theorem dX1_digest_240 : decode cX1_digest 240 = .ok (.if_icmp .ge 26, 3) := by decide +kernel
theorem dX1_digest_243 : decode cX1_digest 243 = .ok (.aload 6, 2) := by decide +kernel
theorem dX1_digest_245 : decode cX1_digest 245 = .ok (.iload 8, 2) := by decide +kernel
theorem dX1_digest_247 : decode cX1_digest 247 = .ok (.iaload, 1) := by decide +kernel
theorem dX1_digest_248 : decode cX1_digest 248 = .ok (.istore 9, 2) := by decide +kernel
theorem dX1_digest_250 : decode cX1_digest 250 = .ok (.lload_n 2, 1) := by decide +kernel
theorem dX1_digest_251 : decode cX1_digest 251 = .ok (.ldc2_w 143, 3) := by decide +kernel
theorem dX1_digest_254 : decode cX1_digest 254 = .ok (.lmul, 1) := by decide +kernel
theorem dX1_digest_255 : decode cX1_digest 255 = .ok (.iload 9, 2) := by decide +kernel
theorem dX1_digest_257 : decode cX1_digest 257 = .ok (.i2l, 1) := by decide +kernel
theorem dX1_digest_258 : decode cX1_digest 258 = .ok (.ladd, 1) := by decide +kernel
theorem dX1_digest_259 : decode cX1_digest 259 = .ok (.lstore_n 2, 1) := by decide +kernel
theorem dX1_digest_260 : decode cX1_digest 260 = .ok (.iinc 8 1, 3) := by decide +kernel
theorem dX1_digest_263 : decode cX1_digest 263 = .ok (.goto (-27), 3) := by decide +kernel
theorem dX1_digest_266 : decode cX1_digest 266 = .ok (.iinc 4 1, 3) := by decide +kernel
theorem dX1_digest_269 : decode cX1_digest 269 = .ok (.goto (-125), 3) := by decide +kernel
theorem dX1_digest_272 : decode cX1_digest 272 = .ok (.iconst 0, 1) := by decide +kernel
theorem dX1_digest_273 : decode cX1_digest 273 = .ok (.istore 4, 2) := by decide +kernel
theorem dX1_digest_275 : decode cX1_digest 275 = .ok (.iload 4, 2) := by decide +kernel
theorem dX1_digest_277 : decode cX1_digest 277 = .ok (.aload_n 0, 1) := by decide +kernel
theorem dX1_digest_278 : decode cX1_digest 278 = .ok (.getfield 37, 3) := by decide +kernel
theorem dX1_digest_281 : decode cX1_digest 281 = .ok (.if_icmp .ge 40, 3) := by decide +kernel
theorem dX1_digest_284 : decode cX1_digest 284 = .ok (.lload_n 2, 1) := by decide +kernel
theorem dX1_digest_285 : decode cX1_digest 285 = .ok (.ldc2_w 143, 3) := by decide +kernel
theorem dX1_digest_288 : decode cX1_digest 288 = .ok (.lmul, 1) := by decide +kernel
theorem dX1_digest_289 : decode cX1_digest 289 = .ok (.aload_n 0, 1) := by decide +kernel
theorem dX1_digest_290 : decode cX1_digest 290 = .ok (.getfield 9, 3) := by decide +kernel
theorem dX1_digest_293 : decode cX1_digest 293 = .ok (.iload 4, 2) := by decide +kernel
theorem dX1_digest_295 : decode cX1_digest 295 = .ok (.iaload, 1) := by decide +kernel
theorem dX1_digest_296 : decode cX1_digest 296 = .ok (.i2l, 1) := by decide +kernel
theorem dX1_digest_297 : decode cX1_digest 297 = .ok (.ladd, 1) := by decide +kernel
theorem dX1_digest_298 : decode cX1_digest 298 = .ok (.ldc2_w 143, 3) := by decide +kernel
theorem dX1_digest_301 : decode cX1_digest 301 = .ok (.lmul, 1) := by decide +kernel
theorem dX1_digest_302 : decode cX1_digest 302 = .ok (.aload_n 0, 1) := by decide +kernel
theorem dX1_digest_303 : decode cX1_digest 303 = .ok (.getfield 13, 3) := by decide +kernel
theorem dX1_digest_306 : decode cX1_digest 306 = .ok (.iload 4, 2) := by decide +kernel
theorem dX1_digest_308 : decode cX1_digest 308 = .ok (.baload, 1) := by decide +kernel
theorem dX1_digest_309 : decode cX1_digest 309 = .ok (.invokestatic 137, 3) := by decide +kernel
theorem dX1_digest_312 : decode cX1_digest 312 = .ok (.i2l, 1) := by decide +kernel
theorem dX1_digest_313 : decode cX1_digest 313 = .ok (.ladd, 1) := by decide +kernel
theorem dX1_digest_314 : decode cX1_digest 314 = .ok (.lstore_n 2, 1) := by decide +kernel
theorem dX1_digest_315 : decode cX1_digest 315 = .ok (.iinc 4 1, 3) := by decide +kernel
theorem dX1_digest_318 : decode cX1_digest 318 = .ok (.goto (-43), 3) := by decide +kernel
theorem dX1_digest_321 : decode cX1_digest 321 = .ok (.iconst 0, 1) := by decide +kernel
theorem dX1_digest_322 : decode cX1_digest 322 = .ok (.istore 4, 2) := by decide +kernel
theorem dX1_digest_324 : decode cX1_digest 324 = .ok (.iload 4, 2) := by decide +kernel
theorem dX1_digest_326 : decode cX1_digest 326 = .ok (.aload_n 0, 1) := by decide +kernel
theorem dX1_digest_327 : decode cX1_digest 327 = .ok (.getfield 40, 3) := by decide +kernel
theorem dX1_digest_330 : decode cX1_digest 330 = .ok (.if_icmp .ge 54, 3) := by decide +kernel
theorem dX1_digest_333 : decode cX1_digest 333 = .ok (.lload_n 2, 1) := by decide +kernel
theorem dX1_digest_334 : decode cX1_digest 334 = .ok (.ldc2_w 143, 3) := by decide +kernel
theorem dX1_digest_337 : decode cX1_digest 337 = .ok (.lmul, 1) := by decide +kernel
theorem dX1_digest_338 : decode cX1_digest 338 = .ok (.aload_n 0, 1) := by decide +kernel
theorem dX1_digest_339 : decode cX1_digest 339 = .ok (.getfield 23, 3) := by decide +kernel
theorem dX1_digest_342 : decode cX1_digest 342 = .ok (.iload 4, 2) := by decide +kernel
theorem dX1_digest_344 : decode cX1_digest 344 = .ok (.iaload, 1) := by decide +kernel
theorem dX1_digest_345 : decode cX1_digest 345 = .ok (.i2l, 1) := by decide +kernel
theorem dX1_digest_346 : decode cX1_digest 346 = .ok (.ladd, 1) := by decide +kernel
theorem dX1_digest_347 : decode cX1_digest 347 = .ok (.ldc2_w 143, 3) := by decide +kernel
theorem dX1_digest_350 : decode cX1_digest 350 = .ok (.lmul, 1) := by decide +kernel
theorem dX1_digest_351 : decode cX1_digest 351 = .ok (.aload_n 0, 1) := by decide +kernel
theorem dX1_digest_352 : decode cX1_digest 352 = .ok (.getfield 20, 3) := by decide +kernel
theorem dX1_digest_355 : decode cX1_digest 355 = .ok (.iload 4, 2) := by decide +kernel
theorem dX1_digest_357 : decode cX1_digest 357 = .ok (.iaload, 1) := by decide +kernel
theorem dX1_digest_358 : decode cX1_digest 358 = .ok (.i2l, 1) := by decide +kernel
theorem dX1_digest_359 : decode cX1_digest 359 = .ok (.ladd, 1) := by decide +kernel
theorem dX1_digest_360 : decode cX1_digest 360 = .ok (.ldc2_w 143, 3) := by decide +kernel
theorem dX1_digest_363 : decode cX1_digest 363 = .ok (.lmul, 1) := by decide +kernel
theorem dX1_digest_364 : decode cX1_digest 364 = .ok (.aload_n 0, 1) := by decide +kernel
theorem dX1_digest_365 : decode cX1_digest 365 = .ok (.aload_n 0, 1) := by decide +kernel
theorem dX1_digest_366 : decode cX1_digest 366 = .ok (.getfield 23, 3) := by decide +kernel
theorem dX1_digest_369 : decode cX1_digest 369 = .ok (.iload 4, 2) := by decide +kernel
theorem dX1_digest_371 : decode cX1_digest 371 = .ok (.iaload, 1) := by decide +kernel
theorem dX1_digest_372 : decode cX1_digest 372 = .ok (.invokevirtual 51, 3) := by decide +kernel
theorem dX1_digest_375 : decode cX1_digest 375 = .ok (.i2l, 1) := by decide +kernel
theorem dX1_digest_376 : decode cX1_digest 376 = .ok (.ladd, 1) := by decide +kernel
theorem dX1_digest_377 : decode cX1_digest 377 = .ok (.lstore_n 2, 1) := by decide +kernel
theorem dX1_digest_378 : decode cX1_digest 378 = .ok (.iinc 4 1, 3) := by decide +kernel
theorem dX1_digest_381 : decode cX1_digest 381 = .ok (.goto (-57), 3) := by decide +kernel
theorem dX1_digest_384 : decode cX1_digest 384 = .ok (.lload_n 2, 1) := by decide +kernel
theorem dX1_digest_385 : decode cX1_digest 385 = .ok (.lreturn, 1) := by decide +kernel
end
section
theorem dJ6_bitCount_0f7a4_0 : decode cJ6_bitCount_0f7a4 0 = .ok (.iload_n 0, 1) := by decide +kernel
theorem dJ6_bitCount_0f7a4_1 : decode cJ6_bitCount_0f7a4 1 = .ok (.iload_n 0, 1) := by decide +kernel
theorem dJ6_bitCount_0f7a4_2 : decode cJ6_bitCount_0f7a4 2 = .ok (.iconst 1, 1) := by decide +kernel
theorem dJ6_bitCount_0f7a4_3 : decode cJ6_bitCount_0f7a4 3 = .ok (.iushr, 1) := by decide +kernel
theorem dJ6_bitCount_0f7a4_4 : decode cJ6_bitCount_0f7a4 4 = .ok (.ldc_w 265, 3) := by decide +kernel
theorem dJ6_bitCount_0f7a4_7 : decode cJ6_bitCount_0f7a4 7 = .ok (.iand, 1) := by decide +kernel
theorem dJ6_bitCount_0f7a4_8 : decode cJ6_bitCount_0f7a4 8 = .ok (.isub, 1) := by decide +kernel
theorem dJ6_bitCount_0f7a4_9 : decode cJ6_bitCount_0f7a4 9 = .ok (.istore_n 0, 1) := by decide +kernel
theorem dJ6_bitCount_0f7a4_10 : decode cJ6_bitCount_0f7a4 10 = .ok (.iload_n 0, 1) := by decide +kernel
theorem dJ6_bitCount_0f7a4_11 : decode cJ6_bitCount_0f7a4 11 = .ok (.ldc_w 266, 3) := by decide +kernel
theorem dJ6_bitCount_0f7a4_14 : decode cJ6_bitCount_0f7a4 14 = .ok (.iand, 1) := by decide +kernel
theorem dJ6_bitCount_0f7a4_15 : decode cJ6_bitCount_0f7a4 15 = .ok (.iload_n 0, 1) := by decide +kernel
theorem dJ6_bitCount_0f7a4_16 : decode cJ6_bitCount_0f7a4 16 = .ok (.iconst 2, 1) := by decide +kernel
theorem dJ6_bitCount_0f7a4_17 : decode cJ6_bitCount_0f7a4 17 = .ok (.iushr, 1) := by decide +kernel
theorem dJ6_bitCount_0f7a4_18 : decode cJ6_bitCount_0f7a4 18 = .ok (.ldc_w 266, 3) := by decide +kernel
theorem dJ6_bitCount_0f7a4_21 : decode cJ6_bitCount_0f7a4 21 = .ok (.iand, 1) := by decide +kernel
theorem dJ6_bitCount_0f7a4_22 : decode cJ6_bitCount_0f7a4 22 = .ok (.iadd, 1) := by decide +kernel
theorem dJ6_bitCount_0f7a4_23 : decode cJ6_bitCount_0f7a4 23 = .ok (.istore_n 0, 1) := by decide +kernel
theorem dJ6_bitCount_0f7a4_24 : decode cJ6_bitCount_0f7a4 24 = .ok (.iload_n 0, 1) := by decide +kernel
theorem dJ6_bitCount_0f7a4_25 : decode cJ6_bitCount_0f7a4 25 = .ok (.iload_n 0, 1) := by decide +kernel
theorem dJ6_bitCount_0f7a4_26 : decode cJ6_bitCount_0f7a4 26 = .ok (.iconst 4, 1) := by decide +kernel
theorem dJ6_bitCount_0f7a4_27 : decode cJ6_bitCount_0f7a4 27 = .ok (.iushr, 1) := by decide +kernel
theorem dJ6_bitCount_0f7a4_28 : decode cJ6_bitCount_0f7a4 28 = .ok (.iadd, 1) := by decide +kernel
theorem dJ6_bitCount_0f7a4_29 : decode cJ6_bitCount_0f7a4 29 = .ok (.ldc_w 267, 3) := by decide +kernel
theorem dJ6_bitCount_0f7a4_32 : decode cJ6_bitCount_0f7a4 32 = .ok (.iand, 1) := by decide +kernel
theorem dJ6_bitCount_0f7a4_33 : decode cJ6_bitCount_0f7a4 33 = .ok (.istore_n 0, 1) := by decide +kernel
theorem dJ6_bitCount_0f7a4_34 : decode cJ6_bitCount_0f7a4 34 = .ok (.iload_n 0, 1) := by decide +kernel
theorem dJ6_bitCount_0f7a4_35 : decode cJ6_bitCount_0f7a4 35 = .ok (.iload_n 0, 1) := by decide +kernel
theorem dJ6_bitCount_0f7a4_36 : decode cJ6_bitCount_0f7a4 36 = .ok (.bipush 8, 2) := by decide +kernel
theorem dJ6_bitCount_0f7a4_38 : decode cJ6_bitCount_0f7a4 38 = .ok (.iushr, 1) := by decide +kernel
theorem dJ6_bitCount_0f7a4_39 : decode cJ6_bitCount_0f7a4 39 = .ok (.iadd, 1) := by decide +kernel
theorem dJ6_bitCount_0f7a4_40 : decode cJ6_bitCount_0f7a4 40 = .ok (.istore_n 0, 1) := by decide +kernel
theorem dJ6_bitCount_0f7a4_41 : decode cJ6_bitCount_0f7a4 41 = .ok (.iload_n 0, 1) := by decide +kernel
theorem dJ6_bitCount_0f7a4_42 : decode cJ6_bitCount_0f7a4 42 = .ok (.iload_n 0, 1) := by decide +kernel
theorem dJ6_bitCount_0f7a4_43 : decode cJ6_bitCount_0f7a4 43 = .ok (.bipush 16, 2) := by decide +kernel
theorem dJ6_bitCount_0f7a4_45 : decode cJ6_bitCount_0f7a4 45 = .ok (.iushr, 1) := by decide +kernel
theorem dJ6_bitCount_0f7a4_46 : decode cJ6_bitCount_0f7a4 46 = .ok (.iadd, 1) := by decide +kernel
theorem dJ6_bitCount_0f7a4_47 : decode cJ6_bitCount_0f7a4 47 = .ok (.istore_n 0, 1) := by decide +kernel
theorem dJ6_bitCount_0f7a4_48 : decode cJ6_bitCount_0f7a4 48 = .ok (.iload_n 0, 1) := by decide +kernel
theorem dJ6_bitCount_0f7a4_49 : decode cJ6_bitCount_0f7a4 49 = .ok (.bipush 63, 2) := by decide +kernel
theorem dJ6_bitCount_0f7a4_51 : decode cJ6_bitCount_0f7a4 51 = .ok (.iand, 1) := by decide +kernel
theorem dJ6_bitCount_0f7a4_52 : decode cJ6_bitCount_0f7a4 52 = .ok (.ireturn, 1) := by decide +kernel
theorem dJ9_max_7cf53_0 : decode cJ9_max_7cf53 0 = .ok (.iload_n 0, 1) := by decide +kernel
theorem dJ9_max_7cf53_1 : decode cJ9_max_7cf53 1 = .ok (.iload_n 1, 1) := by decide +kernel
theorem dJ9_max_7cf53_2 : decode cJ9_max_7cf53 2 = .ok (.if_icmp .lt 7, 3) := by decide +kernel
theorem dJ9_max_7cf53_5 : decode cJ9_max_7cf53 5 = .ok (.iload_n 0, 1) := by decide +kernel
theorem dJ9_max_7cf53_6 : decode cJ9_max_7cf53 6 = .ok (.goto 4, 3) := by decide +kernel
theorem dJ9_max_7cf53_9 : decode cJ9_max_7cf53 9 = .ok (.iload_n 1, 1) := by decide +kernel
theorem dJ9_max_7cf53_10 : decode cJ9_max_7cf53 10 = .ok (.ireturn, 1) := by decide +kernel
theorem dJ9_min_7cf53_0 : decode cJ9_min_7cf53 0 = .ok (.iload_n 0, 1) := by decide +kernel
theorem dJ9_min_7cf53_1 : decode cJ9_min_7cf53 1 = .ok (.iload_n 1, 1) := by decide +kernel
theorem dJ9_min_7cf53_2 : decode cJ9_min_7cf53 2 = .ok (.if_icmp .gt 7, 3) := by decide +kernel
theorem dJ9_min_7cf53_5 : decode cJ9_min_7cf53 5 = .ok (.iload_n 0, 1) := by decide +kernel
theorem dJ9_min_7cf53_6 : decode cJ9_min_7cf53 6 = .ok (.goto 4, 3) := by decide +kernel
theorem dJ9_min_7cf53_9 : decode cJ9_min_7cf53 9 = .ok (.iload_n 1, 1) := by decide +kernel
theorem dJ9_min_7cf53_10 : decode cJ9_min_7cf53 10 = .ok (.ireturn, 1) := by decide +kernel
set_option maxRecDepth 20000 in
theorem ggL_addThing_X0_addThing : GoodIn wsL_addThing wsX0_addThing := goodIn_ca (goodIn_r _ [6, 7, 8, 9, 10, 11, 12, 13, 14, 15, 16, 17, 18, 19] (by decide +kernel) (by decide +kernel)) (goodIn_sub (fun _ h => List.mem_cons_of_mem _ (List.mem_append_right _ h)) (by decide +kernel))
set_option maxRecDepth 20000 in
theorem gL_addThing_X0_addThing : GoodIn wsL_addThing (wsV RL 7 RX0 yX0_addThing wsX0_addThing) := goodIn_app (goodIn_of _ (by decide +kernel)) ggL_addThing_X0_addThing
theorem dL_addThing_0 : decode cL_addThing 0 = .ok (.aload_n 1, 1) := by decide +kernel
theorem dL_addThing_1 : decode cL_addThing 1 = .ok (.iconst 0, 1) := by decide +kernel
theorem dL_addThing_2 : decode cL_addThing 2 = .ok (.aload_n 0, 1) := by decide +kernel
theorem dL_addThing_3 : decode cL_addThing 3 = .ok (.invokevirtual 7, 3) := by decide +kernel
theorem dL_addThing_6 : decode cL_addThing 6 = .ok (.i2l, 1) := by decide +kernel
theorem dL_addThing_7 : decode cL_addThing 7 = .ok (.lastore, 1) := by decide +kernel
theorem dL_addThing_8 : decode cL_addThing 8 = .ok (.goto 6, 3) := by decide +kernel
theorem dL_addThing_11 : decode cL_addThing 11 = .ok (.astore_n 2, 1) := by decide +kernel
theorem dL_addThing_12 : decode cL_addThing 12 = .ok (.iconst 1, 1) := by decide +kernel
theorem dL_addThing_13 : decode cL_addThing 13 = .ok (.ireturn, 1) := by decide +kernel
theorem dL_addThing_14 : decode cL_addThing 14 = .ok (.iconst 0, 1) := by decide +kernel
theorem dL_addThing_15 : decode cL_addThing 15 = .ok (.ireturn, 1) := by decide +kernel
set_option maxRecDepth 20000 in
theorem ggL_addAstronomer_X0_addAstronomer : GoodIn wsL_addAstronomer wsX0_addAstronomer := goodIn_ca (goodIn_ca (goodIn_r _ [7, 8, 9, 10, 11, 12, 13, 14, 15, 16, 6, 17, 18, 19, 20, 21, 22, 23, 24, 25, 26, 27, 28, 29] (by decide +kernel) (by decide +kernel)) (goodIn_sub (fun _ h => List.mem_cons_of_mem _ (List.mem_append_left _ (List.mem_append_right _ h))) (by decide +kernel))) (goodIn_sub (fun _ h => List.mem_cons_of_mem _ (List.mem_append_right _ h)) (by decide +kernel))
set_option maxRecDepth 20000 in
theorem gL_addAstronomer_X0_addAstronomer : GoodIn wsL_addAstronomer (wsV RL 15 RX0 yX0_addAstronomer wsX0_addAstronomer) := goodIn_app (goodIn_of _ (by decide +kernel)) ggL_addAstronomer_X0_addAstronomer
theorem dL_addAstronomer_0 : decode cL_addAstronomer 0 = .ok (.aload_n 2, 1) := by decide +kernel
theorem dL_addAstronomer_1 : decode cL_addAstronomer 1 = .ok (.iconst 0, 1) := by decide +kernel
theorem dL_addAstronomer_2 : decode cL_addAstronomer 2 = .ok (.aload_n 0, 1) := by decide +kernel
theorem dL_addAstronomer_3 : decode cL_addAstronomer 3 = .ok (.iload_n 1, 1) := by decide +kernel
theorem dL_addAstronomer_4 : decode cL_addAstronomer 4 = .ok (.invokevirtual 15, 3) := by decide +kernel
theorem dL_addAstronomer_7 : decode cL_addAstronomer 7 = .ok (.i2l, 1) := by decide +kernel
theorem dL_addAstronomer_8 : decode cL_addAstronomer 8 = .ok (.lastore, 1) := by decide +kernel
theorem dL_addAstronomer_9 : decode cL_addAstronomer 9 = .ok (.goto 9, 3) := by decide +kernel
theorem dL_addAstronomer_12 : decode cL_addAstronomer 12 = .ok (.astore_n 3, 1) := by decide +kernel
theorem dL_addAstronomer_13 : decode cL_addAstronomer 13 = .ok (.iconst 1, 1) := by decide +kernel
theorem dL_addAstronomer_14 : decode cL_addAstronomer 14 = .ok (.ireturn, 1) := by decide +kernel
theorem dL_addAstronomer_15 : decode cL_addAstronomer 15 = .ok (.astore_n 3, 1) := by decide +kernel
theorem dL_addAstronomer_16 : decode cL_addAstronomer 16 = .ok (.iconst 2, 1) := by decide +kernel
theorem dL_addAstronomer_17 : decode cL_addAstronomer 17 = .ok (.ireturn, 1) := by decide +kernel
theorem dL_addAstronomer_18 : decode cL_addAstronomer 18 = .ok (.iconst 0, 1) := by decide +kernel
theorem dL_addAstronomer_19 : decode cL_addAstronomer 19 = .ok (.ireturn, 1) := by decide +kernel
set_option maxRecDepth 20000 in
theorem ggL_blame_X0_blame : GoodIn wsL_blame wsX0_blame := goodIn_ca (goodIn_ca (goodIn_r _ [7, 8, 9, 10, 11, 6, 12, 13, 14, 15, 16, 17, 18, 19, 20, 21, 22, 23, 24, 25, 26, 27, 28, 29, 30, 31, 32, 33, 34, 35, 36, 37, 38, 39, 40, 41, 42] (by decide +kernel) (by decide +kernel)) (goodIn_sub (fun _ h => List.mem_cons_of_mem _ (List.mem_append_left _ (List.mem_append_right _ h))) (by decide +kernel))) (goodIn_sub (fun _ h => List.mem_cons_of_mem _ (List.mem_append_right _ h)) (by decide +kernel))
set_option maxRecDepth 20000 in
theorem gL_blame_X0_blame : GoodIn wsL_blame (wsV RL 21 RX0 yX0_blame wsX0_blame) := goodIn_app (goodIn_of _ (by decide +kernel)) ggL_blame_X0_blame
theorem dL_blame_0 : decode cL_blame 0 = .ok (.aload_n 3, 1) := by decide +kernel
theorem dL_blame_1 : decode cL_blame 1 = .ok (.iconst 0, 1) := by decide +kernel
theorem dL_blame_2 : decode cL_blame 2 = .ok (.aload_n 0, 1) := by decide +kernel
theorem dL_blame_3 : decode cL_blame 3 = .ok (.iload_n 1, 1) := by decide +kernel
theorem dL_blame_4 : decode cL_blame 4 = .ok (.iload_n 2, 1) := by decide +kernel
theorem dL_blame_5 : decode cL_blame 5 = .ok (.invokevirtual 21, 3) := by decide +kernel
theorem dL_blame_8 : decode cL_blame 8 = .ok (.i2l, 1) := by decide +kernel
theorem dL_blame_9 : decode cL_blame 9 = .ok (.lastore, 1) := by decide +kernel
theorem dL_blame_10 : decode cL_blame 10 = .ok (.goto 11, 3) := by decide +kernel
theorem dL_blame_13 : decode cL_blame 13 = .ok (.astore 4, 2) := by decide +kernel
theorem dL_blame_15 : decode cL_blame 15 = .ok (.iconst 1, 1) := by decide +kernel
theorem dL_blame_16 : decode cL_blame 16 = .ok (.ireturn, 1) := by decide +kernel
theorem dL_blame_17 : decode cL_blame 17 = .ok (.astore 4, 2) := by decide +kernel
theorem dL_blame_19 : decode cL_blame 19 = .ok (.iconst 2, 1) := by decide +kernel
theorem dL_blame_20 : decode cL_blame 20 = .ok (.ireturn, 1) := by decide +kernel
theorem dL_blame_21 : decode cL_blame 21 = .ok (.iconst 0, 1) := by decide +kernel
theorem dL_blame_22 : decode cL_blame 22 = .ok (.ireturn, 1) := by decide +kernel
set_option maxRecDepth 20000 in
theorem ggL_writeDown_X0_writeDown : GoodIn wsL_writeDown wsX0_writeDown := goodIn_ca (goodIn_ca (goodIn_r _ [7, 8, 9, 10, 11, 12, 13, 14, 6, 15, 16, 17, 18, 19, 20, 21, 22, 23, 24, 25, 26, 27, 28, 29, 30, 31, 32, 33, 34, 35, 36, 37, 38, 39, 40, 41, 42, 43, 44, 45, 46, 47, 48, 49, 50, 51, 52, 53, 54, 55, 56, 57, 58, 59, 60, 61, 62, 63, 64, 65, 66, 67, 68, 69, 70, 71, 72, 73] (by decide +kernel) (by decide +kernel)) (goodIn_sub (fun _ h => List.mem_cons_of_mem _ (List.mem_append_left _ (List.mem_append_right _ h))) (by decide +kernel))) (goodIn_sub (fun _ h => List.mem_cons_of_mem _ (List.mem_append_right _ h)) (by decide +kernel))
set_option maxRecDepth 20000 in
theorem gL_writeDown_X0_writeDown : GoodIn wsL_writeDown (wsV RL 27 RX0 yX0_writeDown wsX0_writeDown) := goodIn_app (goodIn_of _ (by decide +kernel)) ggL_writeDown_X0_writeDown
theorem dL_writeDown_0 : decode cL_writeDown 0 = .ok (.aload_n 3, 1) := by decide +kernel
theorem dL_writeDown_1 : decode cL_writeDown 1 = .ok (.iconst 0, 1) := by decide +kernel
theorem dL_writeDown_2 : decode cL_writeDown 2 = .ok (.aload_n 0, 1) := by decide +kernel
theorem dL_writeDown_3 : decode cL_writeDown 3 = .ok (.iload_n 1, 1) := by decide +kernel
theorem dL_writeDown_4 : decode cL_writeDown 4 = .ok (.iload_n 2, 1) := by decide +kernel
theorem dL_writeDown_5 : decode cL_writeDown 5 = .ok (.invokevirtual 27, 3) := by decide +kernel
theorem dL_writeDown_8 : decode cL_writeDown 8 = .ok (.i2l, 1) := by decide +kernel
theorem dL_writeDown_9 : decode cL_writeDown 9 = .ok (.lastore, 1) := by decide +kernel
theorem dL_writeDown_10 : decode cL_writeDown 10 = .ok (.goto 11, 3) := by decide +kernel
theorem dL_writeDown_13 : decode cL_writeDown 13 = .ok (.astore 4, 2) := by decide +kernel
theorem dL_writeDown_15 : decode cL_writeDown 15 = .ok (.iconst 1, 1) := by decide +kernel
theorem dL_writeDown_16 : decode cL_writeDown 16 = .ok (.ireturn, 1) := by decide +kernel
theorem dL_writeDown_17 : decode cL_writeDown 17 = .ok (.astore 4, 2) := by decide +kernel
theorem dL_writeDown_19 : decode cL_writeDown 19 = .ok (.iconst 2, 1) := by decide +kernel
theorem dL_writeDown_20 : decode cL_writeDown 20 = .ok (.ireturn, 1) := by decide +kernel
theorem dL_writeDown_21 : decode cL_writeDown 21 = .ok (.iconst 0, 1) := by decide +kernel
theorem dL_writeDown_22 : decode cL_writeDown 22 = .ok (.ireturn, 1) := by decide +kernel
set_option maxRecDepth 20000 in
theorem ggL_strike_X0_strike : GoodIn wsL_strike wsX0_strike := goodIn_ca (goodIn_r _ [6, 7, 8, 9, 10, 11, 12, 5, 13, 14, 15, 16, 17, 18, 19, 20, 21, 22, 23, 24, 25, 26, 27, 28, 29, 30, 31, 32, 33] (by decide +kernel) (by decide +kernel)) (goodIn_sub (fun _ h => List.mem_cons_of_mem _ (List.mem_append_right _ h)) (by decide +kernel))
set_option maxRecDepth 20000 in
theorem gL_strike_X0_strike : GoodIn wsL_strike (wsV RL 31 RX0 yX0_strike wsX0_strike) := goodIn_app (goodIn_of _ (by decide +kernel)) ggL_strike_X0_strike
theorem dL_strike_0 : decode cL_strike 0 = .ok (.aload_n 2, 1) := by decide +kernel
theorem dL_strike_1 : decode cL_strike 1 = .ok (.iconst 0, 1) := by decide +kernel
theorem dL_strike_2 : decode cL_strike 2 = .ok (.aload_n 0, 1) := by decide +kernel
theorem dL_strike_3 : decode cL_strike 3 = .ok (.iload_n 1, 1) := by decide +kernel
theorem dL_strike_4 : decode cL_strike 4 = .ok (.invokevirtual 31, 3) := by decide +kernel
theorem dL_strike_7 : decode cL_strike 7 = .ok (.i2l, 1) := by decide +kernel
theorem dL_strike_8 : decode cL_strike 8 = .ok (.lastore, 1) := by decide +kernel
theorem dL_strike_9 : decode cL_strike 9 = .ok (.goto 6, 3) := by decide +kernel
theorem dL_strike_12 : decode cL_strike 12 = .ok (.astore_n 3, 1) := by decide +kernel
theorem dL_strike_13 : decode cL_strike 13 = .ok (.iconst 1, 1) := by decide +kernel
theorem dL_strike_14 : decode cL_strike 14 = .ok (.ireturn, 1) := by decide +kernel
theorem dL_strike_15 : decode cL_strike 15 = .ok (.iconst 0, 1) := by decide +kernel
theorem dL_strike_16 : decode cL_strike 16 = .ok (.ireturn, 1) := by decide +kernel
set_option maxRecDepth 20000 in
theorem ggL_nightsWith_X0_nightsWith : GoodIn wsL_nightsWith wsX0_nightsWith := goodIn_ca (goodIn_r _ [6, 7, 8, 9, 10, 11, 5, 12, 13, 14, 15, 16, 17, 18, 19, 20, 21, 22, 23, 24, 25, 26, 27, 28, 29, 30, 31] (by decide +kernel) (by decide +kernel)) (goodIn_sub (fun _ h => List.mem_cons_of_mem _ (List.mem_append_right _ h)) (by decide +kernel))
set_option maxRecDepth 20000 in
theorem gL_nightsWith_X0_nightsWith : GoodIn wsL_nightsWith (wsV RL 34 RX0 yX0_nightsWith wsX0_nightsWith) := goodIn_app (goodIn_of _ (by decide +kernel)) ggL_nightsWith_X0_nightsWith
theorem dL_nightsWith_0 : decode cL_nightsWith 0 = .ok (.aload_n 2, 1) := by decide +kernel
theorem dL_nightsWith_1 : decode cL_nightsWith 1 = .ok (.iconst 0, 1) := by decide +kernel
theorem dL_nightsWith_2 : decode cL_nightsWith 2 = .ok (.aload_n 0, 1) := by decide +kernel
theorem dL_nightsWith_3 : decode cL_nightsWith 3 = .ok (.iload_n 1, 1) := by decide +kernel
theorem dL_nightsWith_4 : decode cL_nightsWith 4 = .ok (.invokevirtual 34, 3) := by decide +kernel
theorem dL_nightsWith_7 : decode cL_nightsWith 7 = .ok (.i2l, 1) := by decide +kernel
theorem dL_nightsWith_8 : decode cL_nightsWith 8 = .ok (.lastore, 1) := by decide +kernel
theorem dL_nightsWith_9 : decode cL_nightsWith 9 = .ok (.goto 6, 3) := by decide +kernel
theorem dL_nightsWith_12 : decode cL_nightsWith 12 = .ok (.astore_n 3, 1) := by decide +kernel
theorem dL_nightsWith_13 : decode cL_nightsWith 13 = .ok (.iconst 1, 1) := by decide +kernel
theorem dL_nightsWith_14 : decode cL_nightsWith 14 = .ok (.ireturn, 1) := by decide +kernel
theorem dL_nightsWith_15 : decode cL_nightsWith 15 = .ok (.iconst 0, 1) := by decide +kernel
theorem dL_nightsWith_16 : decode cL_nightsWith 16 = .ok (.ireturn, 1) := by decide +kernel
set_option maxRecDepth 20000 in
theorem ggL_smudgesWith_X0_smudgesWith : GoodIn wsL_smudgesWith wsX0_smudgesWith := goodIn_ca (goodIn_r _ [6, 7, 8, 9, 10, 11, 12, 5, 13, 14, 15, 16, 17, 18, 19, 20, 21, 22, 23, 24, 25, 26, 27, 28, 29, 30, 31, 32] (by decide +kernel) (by decide +kernel)) (goodIn_sub (fun _ h => List.mem_cons_of_mem _ (List.mem_append_right _ h)) (by decide +kernel))
set_option maxRecDepth 20000 in
theorem gL_smudgesWith_X0_smudgesWith : GoodIn wsL_smudgesWith (wsV RL 37 RX0 yX0_smudgesWith wsX0_smudgesWith) := goodIn_app (goodIn_of _ (by decide +kernel)) ggL_smudgesWith_X0_smudgesWith
theorem dL_smudgesWith_0 : decode cL_smudgesWith 0 = .ok (.aload_n 2, 1) := by decide +kernel
theorem dL_smudgesWith_1 : decode cL_smudgesWith 1 = .ok (.iconst 0, 1) := by decide +kernel
theorem dL_smudgesWith_2 : decode cL_smudgesWith 2 = .ok (.aload_n 0, 1) := by decide +kernel
theorem dL_smudgesWith_3 : decode cL_smudgesWith 3 = .ok (.iload_n 1, 1) := by decide +kernel
theorem dL_smudgesWith_4 : decode cL_smudgesWith 4 = .ok (.invokevirtual 37, 3) := by decide +kernel
theorem dL_smudgesWith_7 : decode cL_smudgesWith 7 = .ok (.i2l, 1) := by decide +kernel
theorem dL_smudgesWith_8 : decode cL_smudgesWith 8 = .ok (.lastore, 1) := by decide +kernel
theorem dL_smudgesWith_9 : decode cL_smudgesWith 9 = .ok (.goto 6, 3) := by decide +kernel
theorem dL_smudgesWith_12 : decode cL_smudgesWith 12 = .ok (.astore_n 3, 1) := by decide +kernel
theorem dL_smudgesWith_13 : decode cL_smudgesWith 13 = .ok (.iconst 1, 1) := by decide +kernel
theorem dL_smudgesWith_14 : decode cL_smudgesWith 14 = .ok (.ireturn, 1) := by decide +kernel
theorem dL_smudgesWith_15 : decode cL_smudgesWith 15 = .ok (.iconst 0, 1) := by decide +kernel
theorem dL_smudgesWith_16 : decode cL_smudgesWith 16 = .ok (.ireturn, 1) := by decide +kernel
set_option maxRecDepth 20000 in
theorem ggL_isCleared_X0_isCleared : GoodIn wsL_isCleared wsX0_isCleared := goodIn_ca (goodIn_r _ [6, 7, 8, 9, 5, 10, 11, 12, 13, 14, 15, 16, 17, 18, 19, 20, 21, 22, 23, 24, 25, 26, 27, 28, 29, 30, 31, 32, 33, 34, 35, 36] (by decide +kernel) (by decide +kernel)) (goodIn_sub (fun _ h => List.mem_cons_of_mem _ (List.mem_append_right _ h)) (by decide +kernel))
set_option maxRecDepth 20000 in
theorem gL_isCleared_X0_isCleared : GoodIn wsL_isCleared (wsV RL 40 RX0 yX0_isCleared wsX0_isCleared) := goodIn_app (goodIn_of _ (by decide +kernel)) ggL_isCleared_X0_isCleared
theorem dL_isCleared_0 : decode cL_isCleared 0 = .ok (.aload_n 2, 1) := by decide +kernel
theorem dL_isCleared_1 : decode cL_isCleared 1 = .ok (.iconst 0, 1) := by decide +kernel
theorem dL_isCleared_2 : decode cL_isCleared 2 = .ok (.aload_n 0, 1) := by decide +kernel
theorem dL_isCleared_3 : decode cL_isCleared 3 = .ok (.iload_n 1, 1) := by decide +kernel
theorem dL_isCleared_4 : decode cL_isCleared 4 = .ok (.invokevirtual 40, 3) := by decide +kernel
theorem dL_isCleared_7 : decode cL_isCleared 7 = .ok (.ifCond .eq 7, 3) := by decide +kernel
theorem dL_isCleared_10 : decode cL_isCleared 10 = .ok (.lconst 1, 1) := by decide +kernel
theorem dL_isCleared_11 : decode cL_isCleared 11 = .ok (.goto 4, 3) := by decide +kernel
theorem dL_isCleared_14 : decode cL_isCleared 14 = .ok (.lconst 0, 1) := by decide +kernel
theorem dL_isCleared_15 : decode cL_isCleared 15 = .ok (.lastore, 1) := by decide +kernel
theorem dL_isCleared_16 : decode cL_isCleared 16 = .ok (.goto 6, 3) := by decide +kernel
theorem dL_isCleared_19 : decode cL_isCleared 19 = .ok (.astore_n 3, 1) := by decide +kernel
theorem dL_isCleared_20 : decode cL_isCleared 20 = .ok (.iconst 1, 1) := by decide +kernel
theorem dL_isCleared_21 : decode cL_isCleared 21 = .ok (.ireturn, 1) := by decide +kernel
theorem dL_isCleared_22 : decode cL_isCleared 22 = .ok (.iconst 0, 1) := by decide +kernel
theorem dL_isCleared_23 : decode cL_isCleared 23 = .ok (.ireturn, 1) := by decide +kernel
set_option maxRecDepth 20000 in
theorem ggL_isProved_X0_isProved : GoodIn wsL_isProved wsX0_isProved := goodIn_ca (goodIn_r _ [6, 7, 8, 9, 10, 11, 12, 5, 13, 14, 15, 16, 17, 18, 19, 20, 21, 22, 23, 24, 25, 26, 27, 28, 29, 30, 31, 32, 33, 34, 35, 36] (by decide +kernel) (by decide +kernel)) (goodIn_sub (fun _ h => List.mem_cons_of_mem _ (List.mem_append_right _ h)) (by decide +kernel))
set_option maxRecDepth 20000 in
theorem gL_isProved_X0_isProved : GoodIn wsL_isProved (wsV RL 44 RX0 yX0_isProved wsX0_isProved) := goodIn_app (goodIn_of _ (by decide +kernel)) ggL_isProved_X0_isProved
theorem dL_isProved_0 : decode cL_isProved 0 = .ok (.aload_n 2, 1) := by decide +kernel
theorem dL_isProved_1 : decode cL_isProved 1 = .ok (.iconst 0, 1) := by decide +kernel
theorem dL_isProved_2 : decode cL_isProved 2 = .ok (.aload_n 0, 1) := by decide +kernel
theorem dL_isProved_3 : decode cL_isProved 3 = .ok (.iload_n 1, 1) := by decide +kernel
theorem dL_isProved_4 : decode cL_isProved 4 = .ok (.invokevirtual 44, 3) := by decide +kernel
theorem dL_isProved_7 : decode cL_isProved 7 = .ok (.ifCond .eq 7, 3) := by decide +kernel
theorem dL_isProved_10 : decode cL_isProved 10 = .ok (.lconst 1, 1) := by decide +kernel
theorem dL_isProved_11 : decode cL_isProved 11 = .ok (.goto 4, 3) := by decide +kernel
theorem dL_isProved_14 : decode cL_isProved 14 = .ok (.lconst 0, 1) := by decide +kernel
theorem dL_isProved_15 : decode cL_isProved 15 = .ok (.lastore, 1) := by decide +kernel
theorem dL_isProved_16 : decode cL_isProved 16 = .ok (.goto 6, 3) := by decide +kernel
theorem dL_isProved_19 : decode cL_isProved 19 = .ok (.astore_n 3, 1) := by decide +kernel
theorem dL_isProved_20 : decode cL_isProved 20 = .ok (.iconst 1, 1) := by decide +kernel
theorem dL_isProved_21 : decode cL_isProved 21 = .ok (.ireturn, 1) := by decide +kernel
theorem dL_isProved_22 : decode cL_isProved 22 = .ok (.iconst 0, 1) := by decide +kernel
theorem dL_isProved_23 : decode cL_isProved 23 = .ok (.ireturn, 1) := by decide +kernel
set_option maxRecDepth 20000 in
theorem ggL_setsWith_X0_setsWith : GoodIn wsL_setsWith wsX0_setsWith := goodIn_ca (goodIn_r _ [6, 7, 8, 9, 5, 10, 11, 12, 13, 14, 15, 16, 17, 18, 19, 20, 21, 22, 23, 24, 25, 26, 27, 28, 29, 30, 31, 32, 33, 34, 35, 36, 37, 38, 39] (by decide +kernel) (by decide +kernel)) (goodIn_sub (fun _ h => List.mem_cons_of_mem _ (List.mem_append_right _ h)) (by decide +kernel))
set_option maxRecDepth 20000 in
theorem gL_setsWith_X0_setsWith : GoodIn wsL_setsWith (wsV RL 47 RX0 yX0_setsWith wsX0_setsWith) := goodIn_app (goodIn_of _ (by decide +kernel)) ggL_setsWith_X0_setsWith
theorem dL_setsWith_0 : decode cL_setsWith 0 = .ok (.aload_n 2, 1) := by decide +kernel
theorem dL_setsWith_1 : decode cL_setsWith 1 = .ok (.iconst 0, 1) := by decide +kernel
theorem dL_setsWith_2 : decode cL_setsWith 2 = .ok (.aload_n 0, 1) := by decide +kernel
theorem dL_setsWith_3 : decode cL_setsWith 3 = .ok (.iload_n 1, 1) := by decide +kernel
theorem dL_setsWith_4 : decode cL_setsWith 4 = .ok (.invokevirtual 47, 3) := by decide +kernel
theorem dL_setsWith_7 : decode cL_setsWith 7 = .ok (.i2l, 1) := by decide +kernel
theorem dL_setsWith_8 : decode cL_setsWith 8 = .ok (.lastore, 1) := by decide +kernel
theorem dL_setsWith_9 : decode cL_setsWith 9 = .ok (.goto 6, 3) := by decide +kernel
theorem dL_setsWith_12 : decode cL_setsWith 12 = .ok (.astore_n 3, 1) := by decide +kernel
theorem dL_setsWith_13 : decode cL_setsWith 13 = .ok (.iconst 1, 1) := by decide +kernel
theorem dL_setsWith_14 : decode cL_setsWith 14 = .ok (.ireturn, 1) := by decide +kernel
theorem dL_setsWith_15 : decode cL_setsWith 15 = .ok (.iconst 0, 1) := by decide +kernel
theorem dL_setsWith_16 : decode cL_setsWith 16 = .ok (.ireturn, 1) := by decide +kernel
set_option maxRecDepth 20000 in
theorem ggL_usedIn_X0_usedIn : GoodIn wsL_usedIn wsX0_usedIn := goodIn_ca (goodIn_r _ [6, 7, 8, 9, 10, 5, 11, 12, 13, 14, 15, 16, 17, 18, 19, 20, 21, 22, 23, 24] (by decide +kernel) (by decide +kernel)) (goodIn_sub (fun _ h => List.mem_cons_of_mem _ (List.mem_append_right _ h)) (by decide +kernel))
set_option maxRecDepth 20000 in
theorem gL_usedIn_X0_usedIn : GoodIn wsL_usedIn (wsV RL 50 RX0 yX0_usedIn wsX0_usedIn) := goodIn_app (goodIn_of _ (by decide +kernel)) ggL_usedIn_X0_usedIn
theorem dL_usedIn_0 : decode cL_usedIn 0 = .ok (.aload_n 2, 1) := by decide +kernel
theorem dL_usedIn_1 : decode cL_usedIn 1 = .ok (.iconst 0, 1) := by decide +kernel
theorem dL_usedIn_2 : decode cL_usedIn 2 = .ok (.aload_n 0, 1) := by decide +kernel
theorem dL_usedIn_3 : decode cL_usedIn 3 = .ok (.iload_n 1, 1) := by decide +kernel
theorem dL_usedIn_4 : decode cL_usedIn 4 = .ok (.invokevirtual 50, 3) := by decide +kernel
theorem dL_usedIn_7 : decode cL_usedIn 7 = .ok (.i2l, 1) := by decide +kernel
theorem dL_usedIn_8 : decode cL_usedIn 8 = .ok (.lastore, 1) := by decide +kernel
theorem dL_usedIn_9 : decode cL_usedIn 9 = .ok (.goto 6, 3) := by decide +kernel
theorem dL_usedIn_12 : decode cL_usedIn 12 = .ok (.astore_n 3, 1) := by decide +kernel
theorem dL_usedIn_13 : decode cL_usedIn 13 = .ok (.iconst 1, 1) := by decide +kernel
theorem dL_usedIn_14 : decode cL_usedIn 14 = .ok (.ireturn, 1) := by decide +kernel
theorem dL_usedIn_15 : decode cL_usedIn 15 = .ok (.iconst 0, 1) := by decide +kernel
theorem dL_usedIn_16 : decode cL_usedIn 16 = .ok (.ireturn, 1) := by decide +kernel
set_option maxRecDepth 20000 in
theorem ggL_isSmudged_X0_isSmudged : GoodIn wsL_isSmudged wsX0_isSmudged := goodIn_ca (goodIn_r _ [6, 7, 8, 9, 10, 5, 11, 12, 13, 14, 15, 16, 17, 18, 19, 20, 21, 22, 23, 24] (by decide +kernel) (by decide +kernel)) (goodIn_sub (fun _ h => List.mem_cons_of_mem _ (List.mem_append_right _ h)) (by decide +kernel))
set_option maxRecDepth 20000 in
theorem gL_isSmudged_X0_isSmudged : GoodIn wsL_isSmudged (wsV RL 53 RX0 yX0_isSmudged wsX0_isSmudged) := goodIn_app (goodIn_of _ (by decide +kernel)) ggL_isSmudged_X0_isSmudged
theorem dL_isSmudged_0 : decode cL_isSmudged 0 = .ok (.aload_n 2, 1) := by decide +kernel
theorem dL_isSmudged_1 : decode cL_isSmudged 1 = .ok (.iconst 0, 1) := by decide +kernel
theorem dL_isSmudged_2 : decode cL_isSmudged 2 = .ok (.aload_n 0, 1) := by decide +kernel
theorem dL_isSmudged_3 : decode cL_isSmudged 3 = .ok (.iload_n 1, 1) := by decide +kernel
theorem dL_isSmudged_4 : decode cL_isSmudged 4 = .ok (.invokevirtual 53, 3) := by decide +kernel
theorem dL_isSmudged_7 : decode cL_isSmudged 7 = .ok (.ifCond .eq 7, 3) := by decide +kernel
theorem dL_isSmudged_10 : decode cL_isSmudged 10 = .ok (.lconst 1, 1) := by decide +kernel
theorem dL_isSmudged_11 : decode cL_isSmudged 11 = .ok (.goto 4, 3) := by decide +kernel
theorem dL_isSmudged_14 : decode cL_isSmudged 14 = .ok (.lconst 0, 1) := by decide +kernel
theorem dL_isSmudged_15 : decode cL_isSmudged 15 = .ok (.lastore, 1) := by decide +kernel
theorem dL_isSmudged_16 : decode cL_isSmudged 16 = .ok (.goto 6, 3) := by decide +kernel
theorem dL_isSmudged_19 : decode cL_isSmudged 19 = .ok (.astore_n 3, 1) := by decide +kernel
theorem dL_isSmudged_20 : decode cL_isSmudged 20 = .ok (.iconst 1, 1) := by decide +kernel
theorem dL_isSmudged_21 : decode cL_isSmudged 21 = .ok (.ireturn, 1) := by decide +kernel
theorem dL_isSmudged_22 : decode cL_isSmudged 22 = .ok (.iconst 0, 1) := by decide +kernel
theorem dL_isSmudged_23 : decode cL_isSmudged 23 = .ok (.ireturn, 1) := by decide +kernel
set_option maxRecDepth 20000 in
theorem ggL_blamedBy_X0_blamedBy : GoodIn wsL_blamedBy wsX0_blamedBy := goodIn_ca (goodIn_r _ [6, 7, 8, 9, 10, 5, 11, 12, 13, 14, 15, 16, 17, 18, 19, 20, 21, 22, 23, 24] (by decide +kernel) (by decide +kernel)) (goodIn_sub (fun _ h => List.mem_cons_of_mem _ (List.mem_append_right _ h)) (by decide +kernel))
set_option maxRecDepth 20000 in
theorem gL_blamedBy_X0_blamedBy : GoodIn wsL_blamedBy (wsV RL 56 RX0 yX0_blamedBy wsX0_blamedBy) := goodIn_app (goodIn_of _ (by decide +kernel)) ggL_blamedBy_X0_blamedBy
theorem dL_blamedBy_0 : decode cL_blamedBy 0 = .ok (.aload_n 2, 1) := by decide +kernel
theorem dL_blamedBy_1 : decode cL_blamedBy 1 = .ok (.iconst 0, 1) := by decide +kernel
theorem dL_blamedBy_2 : decode cL_blamedBy 2 = .ok (.aload_n 0, 1) := by decide +kernel
theorem dL_blamedBy_3 : decode cL_blamedBy 3 = .ok (.iload_n 1, 1) := by decide +kernel
theorem dL_blamedBy_4 : decode cL_blamedBy 4 = .ok (.invokevirtual 56, 3) := by decide +kernel
theorem dL_blamedBy_7 : decode cL_blamedBy 7 = .ok (.i2l, 1) := by decide +kernel
theorem dL_blamedBy_8 : decode cL_blamedBy 8 = .ok (.lastore, 1) := by decide +kernel
theorem dL_blamedBy_9 : decode cL_blamedBy 9 = .ok (.goto 6, 3) := by decide +kernel
theorem dL_blamedBy_12 : decode cL_blamedBy 12 = .ok (.astore_n 3, 1) := by decide +kernel
theorem dL_blamedBy_13 : decode cL_blamedBy 13 = .ok (.iconst 1, 1) := by decide +kernel
theorem dL_blamedBy_14 : decode cL_blamedBy 14 = .ok (.ireturn, 1) := by decide +kernel
theorem dL_blamedBy_15 : decode cL_blamedBy 15 = .ok (.iconst 0, 1) := by decide +kernel
theorem dL_blamedBy_16 : decode cL_blamedBy 16 = .ok (.ireturn, 1) := by decide +kernel
set_option maxRecDepth 20000 in
theorem ggL_stubbornnessOf_X0_stubbornnessOf : GoodIn wsL_stubbornnessOf wsX0_stubbornnessOf := goodIn_ca (goodIn_r _ [6, 7, 8, 9, 10, 5, 11, 12, 13, 14, 15, 16, 17, 18, 19, 20, 21, 22, 23, 24] (by decide +kernel) (by decide +kernel)) (goodIn_sub (fun _ h => List.mem_cons_of_mem _ (List.mem_append_right _ h)) (by decide +kernel))
set_option maxRecDepth 20000 in
theorem gL_stubbornnessOf_X0_stubbornnessOf : GoodIn wsL_stubbornnessOf (wsV RL 59 RX0 yX0_stubbornnessOf wsX0_stubbornnessOf) := goodIn_app (goodIn_of _ (by decide +kernel)) ggL_stubbornnessOf_X0_stubbornnessOf
theorem dL_stubbornnessOf_0 : decode cL_stubbornnessOf 0 = .ok (.aload_n 2, 1) := by decide +kernel
theorem dL_stubbornnessOf_1 : decode cL_stubbornnessOf 1 = .ok (.iconst 0, 1) := by decide +kernel
theorem dL_stubbornnessOf_2 : decode cL_stubbornnessOf 2 = .ok (.aload_n 0, 1) := by decide +kernel
theorem dL_stubbornnessOf_3 : decode cL_stubbornnessOf 3 = .ok (.iload_n 1, 1) := by decide +kernel
theorem dL_stubbornnessOf_4 : decode cL_stubbornnessOf 4 = .ok (.invokevirtual 59, 3) := by decide +kernel
theorem dL_stubbornnessOf_7 : decode cL_stubbornnessOf 7 = .ok (.i2l, 1) := by decide +kernel
theorem dL_stubbornnessOf_8 : decode cL_stubbornnessOf 8 = .ok (.lastore, 1) := by decide +kernel
theorem dL_stubbornnessOf_9 : decode cL_stubbornnessOf 9 = .ok (.goto 6, 3) := by decide +kernel
theorem dL_stubbornnessOf_12 : decode cL_stubbornnessOf 12 = .ok (.astore_n 3, 1) := by decide +kernel
theorem dL_stubbornnessOf_13 : decode cL_stubbornnessOf 13 = .ok (.iconst 1, 1) := by decide +kernel
theorem dL_stubbornnessOf_14 : decode cL_stubbornnessOf 14 = .ok (.ireturn, 1) := by decide +kernel
theorem dL_stubbornnessOf_15 : decode cL_stubbornnessOf 15 = .ok (.iconst 0, 1) := by decide +kernel
theorem dL_stubbornnessOf_16 : decode cL_stubbornnessOf 16 = .ok (.ireturn, 1) := by decide +kernel
set_option maxRecDepth 20000 in
theorem ggL_unexplainedBy_X0_unexplainedBy : GoodIn wsL_unexplainedBy wsX0_unexplainedBy := goodIn_ca (goodIn_r _ [6, 7, 8, 9, 10, 5, 11, 12, 13, 14, 15, 16, 17, 18, 19, 20, 21, 22, 23, 24, 25, 26, 27, 28, 29] (by decide +kernel) (by decide +kernel)) (goodIn_sub (fun _ h => List.mem_cons_of_mem _ (List.mem_append_right _ h)) (by decide +kernel))
set_option maxRecDepth 20000 in
theorem gL_unexplainedBy_X0_unexplainedBy : GoodIn wsL_unexplainedBy (wsV RL 62 RX0 yX0_unexplainedBy wsX0_unexplainedBy) := goodIn_app (goodIn_of _ (by decide +kernel)) ggL_unexplainedBy_X0_unexplainedBy
theorem dL_unexplainedBy_0 : decode cL_unexplainedBy 0 = .ok (.aload_n 2, 1) := by decide +kernel
theorem dL_unexplainedBy_1 : decode cL_unexplainedBy 1 = .ok (.iconst 0, 1) := by decide +kernel
theorem dL_unexplainedBy_2 : decode cL_unexplainedBy 2 = .ok (.aload_n 0, 1) := by decide +kernel
theorem dL_unexplainedBy_3 : decode cL_unexplainedBy 3 = .ok (.iload_n 1, 1) := by decide +kernel
theorem dL_unexplainedBy_4 : decode cL_unexplainedBy 4 = .ok (.invokevirtual 62, 3) := by decide +kernel
theorem dL_unexplainedBy_7 : decode cL_unexplainedBy 7 = .ok (.i2l, 1) := by decide +kernel
theorem dL_unexplainedBy_8 : decode cL_unexplainedBy 8 = .ok (.lastore, 1) := by decide +kernel
theorem dL_unexplainedBy_9 : decode cL_unexplainedBy 9 = .ok (.goto 6, 3) := by decide +kernel
theorem dL_unexplainedBy_12 : decode cL_unexplainedBy 12 = .ok (.astore_n 3, 1) := by decide +kernel
theorem dL_unexplainedBy_13 : decode cL_unexplainedBy 13 = .ok (.iconst 1, 1) := by decide +kernel
theorem dL_unexplainedBy_14 : decode cL_unexplainedBy 14 = .ok (.ireturn, 1) := by decide +kernel
theorem dL_unexplainedBy_15 : decode cL_unexplainedBy 15 = .ok (.iconst 0, 1) := by decide +kernel
theorem dL_unexplainedBy_16 : decode cL_unexplainedBy 16 = .ok (.ireturn, 1) := by decide +kernel
set_option maxRecDepth 20000 in
theorem ggL_votesFor_X0_votesFor : GoodIn wsL_votesFor wsX0_votesFor := goodIn_ca (goodIn_r _ [6, 7, 8, 9, 10, 11, 5, 12, 13, 14, 15, 16, 17, 18, 19, 20, 21, 22, 23, 24, 25, 26, 27, 28, 29, 30, 31] (by decide +kernel) (by decide +kernel)) (goodIn_sub (fun _ h => List.mem_cons_of_mem _ (List.mem_append_right _ h)) (by decide +kernel))
set_option maxRecDepth 20000 in
theorem gL_votesFor_X0_votesFor : GoodIn wsL_votesFor (wsV RL 65 RX0 yX0_votesFor wsX0_votesFor) := goodIn_app (goodIn_of _ (by decide +kernel)) ggL_votesFor_X0_votesFor
theorem dL_votesFor_0 : decode cL_votesFor 0 = .ok (.aload_n 2, 1) := by decide +kernel
theorem dL_votesFor_1 : decode cL_votesFor 1 = .ok (.iconst 0, 1) := by decide +kernel
theorem dL_votesFor_2 : decode cL_votesFor 2 = .ok (.aload_n 0, 1) := by decide +kernel
theorem dL_votesFor_3 : decode cL_votesFor 3 = .ok (.iload_n 1, 1) := by decide +kernel
theorem dL_votesFor_4 : decode cL_votesFor 4 = .ok (.invokevirtual 65, 3) := by decide +kernel
theorem dL_votesFor_7 : decode cL_votesFor 7 = .ok (.i2l, 1) := by decide +kernel
theorem dL_votesFor_8 : decode cL_votesFor 8 = .ok (.lastore, 1) := by decide +kernel
theorem dL_votesFor_9 : decode cL_votesFor 9 = .ok (.goto 6, 3) := by decide +kernel
theorem dL_votesFor_12 : decode cL_votesFor 12 = .ok (.astore_n 3, 1) := by decide +kernel
theorem dL_votesFor_13 : decode cL_votesFor 13 = .ok (.iconst 1, 1) := by decide +kernel
theorem dL_votesFor_14 : decode cL_votesFor 14 = .ok (.ireturn, 1) := by decide +kernel
theorem dL_votesFor_15 : decode cL_votesFor 15 = .ok (.iconst 0, 1) := by decide +kernel
theorem dL_votesFor_16 : decode cL_votesFor 16 = .ok (.ireturn, 1) := by decide +kernel
set_option maxRecDepth 20000 in
theorem ggL_explainsAll_X0_explainsAll : GoodIn wsL_explainsAll wsX0_explainsAll := goodIn_ca (goodIn_r _ [6, 7, 8, 9, 5, 10, 11, 12, 13, 14, 15, 16, 17, 18, 19, 20, 21, 22, 23, 24, 25, 26, 27, 28, 29, 30, 31, 32] (by decide +kernel) (by decide +kernel)) (goodIn_sub (fun _ h => List.mem_cons_of_mem _ (List.mem_append_right _ h)) (by decide +kernel))
set_option maxRecDepth 20000 in
theorem gL_explainsAll_X0_explainsAll : GoodIn wsL_explainsAll (wsV RL 68 RX0 yX0_explainsAll wsX0_explainsAll) := goodIn_app (goodIn_of _ (by decide +kernel)) ggL_explainsAll_X0_explainsAll
theorem dL_explainsAll_0 : decode cL_explainsAll 0 = .ok (.aload_n 2, 1) := by decide +kernel
theorem dL_explainsAll_1 : decode cL_explainsAll 1 = .ok (.iconst 0, 1) := by decide +kernel
theorem dL_explainsAll_2 : decode cL_explainsAll 2 = .ok (.aload_n 0, 1) := by decide +kernel
theorem dL_explainsAll_3 : decode cL_explainsAll 3 = .ok (.iload_n 1, 1) := by decide +kernel
theorem dL_explainsAll_4 : decode cL_explainsAll 4 = .ok (.invokevirtual 68, 3) := by decide +kernel
theorem dL_explainsAll_7 : decode cL_explainsAll 7 = .ok (.ifCond .eq 7, 3) := by decide +kernel
theorem dL_explainsAll_10 : decode cL_explainsAll 10 = .ok (.lconst 1, 1) := by decide +kernel
theorem dL_explainsAll_11 : decode cL_explainsAll 11 = .ok (.goto 4, 3) := by decide +kernel
theorem dL_explainsAll_14 : decode cL_explainsAll 14 = .ok (.lconst 0, 1) := by decide +kernel
theorem dL_explainsAll_15 : decode cL_explainsAll 15 = .ok (.lastore, 1) := by decide +kernel
theorem dL_explainsAll_16 : decode cL_explainsAll 16 = .ok (.goto 6, 3) := by decide +kernel
theorem dL_explainsAll_19 : decode cL_explainsAll 19 = .ok (.astore_n 3, 1) := by decide +kernel
theorem dL_explainsAll_20 : decode cL_explainsAll 20 = .ok (.iconst 1, 1) := by decide +kernel
theorem dL_explainsAll_21 : decode cL_explainsAll 21 = .ok (.ireturn, 1) := by decide +kernel
theorem dL_explainsAll_22 : decode cL_explainsAll 22 = .ok (.iconst 0, 1) := by decide +kernel
theorem dL_explainsAll_23 : decode cL_explainsAll 23 = .ok (.ireturn, 1) := by decide +kernel
set_option maxRecDepth 20000 in
theorem ggL_leftIfSmudged_X0_leftIfSmudged : GoodIn wsL_leftIfSmudged wsX0_leftIfSmudged := goodIn_ca (goodIn_r _ [6, 7, 8, 9, 5, 10, 11, 12, 13, 14, 15, 16, 17, 18, 19, 20, 21, 22, 23, 24, 25, 26, 27, 28, 29, 30, 31, 32, 33, 34, 35, 36] (by decide +kernel) (by decide +kernel)) (goodIn_sub (fun _ h => List.mem_cons_of_mem _ (List.mem_append_right _ h)) (by decide +kernel))
set_option maxRecDepth 20000 in
theorem gL_leftIfSmudged_X0_leftIfSmudged : GoodIn wsL_leftIfSmudged (wsV RL 71 RX0 yX0_leftIfSmudged wsX0_leftIfSmudged) := goodIn_app (goodIn_of _ (by decide +kernel)) ggL_leftIfSmudged_X0_leftIfSmudged
theorem dL_leftIfSmudged_0 : decode cL_leftIfSmudged 0 = .ok (.aload_n 2, 1) := by decide +kernel
theorem dL_leftIfSmudged_1 : decode cL_leftIfSmudged 1 = .ok (.iconst 0, 1) := by decide +kernel
theorem dL_leftIfSmudged_2 : decode cL_leftIfSmudged 2 = .ok (.aload_n 0, 1) := by decide +kernel
theorem dL_leftIfSmudged_3 : decode cL_leftIfSmudged 3 = .ok (.iload_n 1, 1) := by decide +kernel
theorem dL_leftIfSmudged_4 : decode cL_leftIfSmudged 4 = .ok (.invokevirtual 71, 3) := by decide +kernel
theorem dL_leftIfSmudged_7 : decode cL_leftIfSmudged 7 = .ok (.i2l, 1) := by decide +kernel
theorem dL_leftIfSmudged_8 : decode cL_leftIfSmudged 8 = .ok (.lastore, 1) := by decide +kernel
theorem dL_leftIfSmudged_9 : decode cL_leftIfSmudged 9 = .ok (.goto 6, 3) := by decide +kernel
theorem dL_leftIfSmudged_12 : decode cL_leftIfSmudged 12 = .ok (.astore_n 3, 1) := by decide +kernel
theorem dL_leftIfSmudged_13 : decode cL_leftIfSmudged 13 = .ok (.iconst 1, 1) := by decide +kernel
theorem dL_leftIfSmudged_14 : decode cL_leftIfSmudged 14 = .ok (.ireturn, 1) := by decide +kernel
theorem dL_leftIfSmudged_15 : decode cL_leftIfSmudged 15 = .ok (.iconst 0, 1) := by decide +kernel
theorem dL_leftIfSmudged_16 : decode cL_leftIfSmudged 16 = .ok (.ireturn, 1) := by decide +kernel
set_option maxRecDepth 20000 in
theorem ggL_wouldChange_X0_wouldChange : GoodIn wsL_wouldChange wsX0_wouldChange := goodIn_ca (goodIn_ca (goodIn_r _ [7, 8, 9, 10, 11, 12, 13, 6, 14, 15, 16, 17, 18, 19, 20, 21, 22, 23, 24, 25, 26, 27, 28, 29, 30, 31, 32, 33, 34, 35, 36, 37, 38, 39, 40, 41, 42, 43, 44, 45, 46, 47, 48, 49, 50] (by decide +kernel) (by decide +kernel)) (goodIn_sub (fun _ h => List.mem_cons_of_mem _ (List.mem_append_left _ (List.mem_append_right _ h))) (by decide +kernel))) (goodIn_sub (fun _ h => List.mem_cons_of_mem _ (List.mem_append_right _ h)) (by decide +kernel))
set_option maxRecDepth 20000 in
theorem gL_wouldChange_X0_wouldChange : GoodIn wsL_wouldChange (wsV RL 74 RX0 yX0_wouldChange wsX0_wouldChange) := goodIn_app (goodIn_of _ (by decide +kernel)) ggL_wouldChange_X0_wouldChange
theorem dL_wouldChange_0 : decode cL_wouldChange 0 = .ok (.aload_n 3, 1) := by decide +kernel
theorem dL_wouldChange_1 : decode cL_wouldChange 1 = .ok (.iconst 0, 1) := by decide +kernel
theorem dL_wouldChange_2 : decode cL_wouldChange 2 = .ok (.aload_n 0, 1) := by decide +kernel
theorem dL_wouldChange_3 : decode cL_wouldChange 3 = .ok (.iload_n 1, 1) := by decide +kernel
theorem dL_wouldChange_4 : decode cL_wouldChange 4 = .ok (.iload_n 2, 1) := by decide +kernel
theorem dL_wouldChange_5 : decode cL_wouldChange 5 = .ok (.invokevirtual 74, 3) := by decide +kernel
theorem dL_wouldChange_8 : decode cL_wouldChange 8 = .ok (.i2l, 1) := by decide +kernel
theorem dL_wouldChange_9 : decode cL_wouldChange 9 = .ok (.lastore, 1) := by decide +kernel
theorem dL_wouldChange_10 : decode cL_wouldChange 10 = .ok (.goto 11, 3) := by decide +kernel
theorem dL_wouldChange_13 : decode cL_wouldChange 13 = .ok (.astore 4, 2) := by decide +kernel
theorem dL_wouldChange_15 : decode cL_wouldChange 15 = .ok (.iconst 1, 1) := by decide +kernel
theorem dL_wouldChange_16 : decode cL_wouldChange 16 = .ok (.ireturn, 1) := by decide +kernel
theorem dL_wouldChange_17 : decode cL_wouldChange 17 = .ok (.astore 4, 2) := by decide +kernel
theorem dL_wouldChange_19 : decode cL_wouldChange 19 = .ok (.iconst 2, 1) := by decide +kernel
theorem dL_wouldChange_20 : decode cL_wouldChange 20 = .ok (.ireturn, 1) := by decide +kernel
theorem dL_wouldChange_21 : decode cL_wouldChange 21 = .ok (.iconst 0, 1) := by decide +kernel
theorem dL_wouldChange_22 : decode cL_wouldChange 22 = .ok (.ireturn, 1) := by decide +kernel
set_option maxRecDepth 20000 in
theorem ggL_law_X0_init : GoodIn wsL_law wsX0_init := goodIn_r _ [9, 10, 11, 12, 13, 14, 15, 16, 17, 18, 19, 20, 21, 22, 23, 24, 596, 597, 598, 599, 600, 601, 602, 603, 604, 605] (by decide +kernel) (by decide +kernel)
set_option maxRecDepth 20000 in
theorem gL_law_X0_init : GoodIn wsL_law (wsX0_init) := ggL_law_X0_init
set_option maxRecDepth 20000 in
theorem ggL_law_X1_init : GoodIn wsL_law wsX1_init := goodIn_r _ [27, 28, 11, 12, 15, 29, 17, 30, 31, 32, 33, 606, 607, 608, 609, 610, 611, 612, 613, 614, 615] (by decide +kernel) (by decide +kernel)
set_option maxRecDepth 20000 in
theorem gL_law_X1_init : GoodIn wsL_law (wsX1_init) := ggL_law_X1_init
set_option maxRecDepth 20000 in
theorem ggL_law_L_addThing : GoodIn wsL_law wsL_addThing := goodIn_ca (goodIn_r _ [37, 38, 39, 40, 41, 2, 42, 43, 44, 13, 596, 597, 598, 599, 600, 601, 602, 603, 604, 605] (by decide +kernel) (by decide +kernel)) (goodIn_sub (fun _ h => List.mem_append_left _ (List.mem_append_left _ (List.mem_append_right _ h))) (by decide +kernel))
set_option maxRecDepth 20000 in
theorem gL_law_L_addThing : GoodIn wsL_law (va_wsS RL 81 yL_addThing wsL_addThing) := goodIn_app (goodIn_of _ (by decide +kernel)) ggL_law_L_addThing
set_option maxRecDepth 20000 in
theorem ggL_law_X1_addThing : GoodIn wsL_law wsX1_addThing := goodIn_r _ [48, 49, 50, 51, 52, 53, 5, 54, 606, 607, 608, 609, 610, 611, 612, 613, 614, 615] (by decide +kernel) (by decide +kernel)
set_option maxRecDepth 20000 in
theorem gL_law_X1_addThing : GoodIn wsL_law (wsV RL 86 RX1 yX1_addThing wsX1_addThing) := goodIn_app (goodIn_of _ (by decide +kernel)) ggL_law_X1_addThing
set_option maxRecDepth 20000 in
theorem ggL_law_X1_thrown : GoodIn wsL_law wsX1_thrown := goodIn_r _ [58, 49, 606, 607, 608, 609, 610, 611, 612, 613, 614, 615] (by decide +kernel) (by decide +kernel)
set_option maxRecDepth 20000 in
theorem gL_law_X1_thrown : GoodIn wsL_law (wsV RL 87 RX1 yX1_thrown wsX1_thrown) := goodIn_app (goodIn_of _ (by decide +kernel)) ggL_law_X1_thrown
set_option maxRecDepth 20000 in
theorem ggL_law_L_addAstronomer : GoodIn wsL_law wsL_addAstronomer := goodIn_ca (goodIn_ca (goodIn_r _ [61, 62, 38, 63, 64, 65, 2, 66, 67, 68, 43, 44, 20, 23, 69, 70, 71, 72, 21, 22, 596, 597, 598, 599, 600, 601, 602, 603, 604, 605] (by decide +kernel) (by decide +kernel)) (goodIn_sub (fun _ h => List.mem_append_left _ (List.mem_append_right _ h)) (by decide +kernel))) (goodIn_sub (fun _ h => List.mem_append_left _ (List.mem_append_left _ (List.mem_append_right _ h))) (by decide +kernel))
set_option maxRecDepth 20000 in
theorem gL_law_L_addAstronomer : GoodIn wsL_law (va_wsS RL 90 yL_addAstronomer wsL_addAstronomer) := goodIn_app (goodIn_of _ (by decide +kernel)) ggL_law_L_addAstronomer
set_option maxRecDepth 20000 in
theorem ggL_law_X1_addAstronomer : GoodIn wsL_law wsX1_addAstronomer := goodIn_r _ [76, 49, 77, 31, 32, 78, 79, 5, 80, 51, 52, 53, 54, 606, 607, 608, 609, 610, 611, 612, 613, 614, 615] (by decide +kernel) (by decide +kernel)
set_option maxRecDepth 20000 in
theorem gL_law_X1_addAstronomer : GoodIn wsL_law (wsV RL 93 RX1 yX1_addAstronomer wsX1_addAstronomer) := goodIn_app (goodIn_of _ (by decide +kernel)) ggL_law_X1_addAstronomer
set_option maxRecDepth 20000 in
theorem ggL_law_L_blame : GoodIn wsL_law wsL_blame := goodIn_ca (goodIn_ca (goodIn_r _ [83, 84, 62, 85, 86, 87, 2, 88, 21, 89, 90, 91, 92, 93, 94, 20, 95, 96, 97, 98, 67, 68, 99, 100, 101, 102, 13, 69, 70, 71, 72, 22, 23, 596, 597, 598, 599, 600, 601, 602, 603, 604, 605] (by decide +kernel) (by decide +kernel)) (goodIn_sub (fun _ h => List.mem_append_right _ h) (by decide +kernel))) (goodIn_sub (fun _ h => List.mem_append_left _ (List.mem_append_right _ h)) (by decide +kernel))
set_option maxRecDepth 20000 in
theorem gL_law_L_blame : GoodIn wsL_law (va_wsS RL 94 yL_blame wsL_blame) := goodIn_app (goodIn_of _ (by decide +kernel)) ggL_law_L_blame
set_option maxRecDepth 20000 in
theorem ggL_law_X1_blame : GoodIn wsL_law wsX1_blame := goodIn_r _ [106, 49, 33, 107, 108, 109, 5, 110, 77, 78, 79, 80, 51, 52, 53, 54, 111, 112, 113, 114, 50, 115, 116, 117, 118, 32, 31, 606, 607, 608, 609, 610, 611, 612, 613, 614, 615] (by decide +kernel) (by decide +kernel)
set_option maxRecDepth 20000 in
theorem gL_law_X1_blame : GoodIn wsL_law (wsV RL 97 RX1 yX1_blame wsX1_blame) := goodIn_app (goodIn_of _ (by decide +kernel)) ggL_law_X1_blame
set_option maxRecDepth 20000 in
theorem ggL_law_L_writeDown : GoodIn wsL_law wsL_writeDown := goodIn_ca (goodIn_ca (goodIn_r _ [121, 62, 38, 122, 123, 124, 2, 125, 16, 14, 18, 24, 126, 127, 128, 129, 67, 68, 99, 100, 101, 102, 13, 130, 131, 132, 133, 43, 44, 134, 135, 136, 137, 19, 138, 139, 140, 141, 142, 143, 144, 20, 21, 22, 145, 146, 147, 148, 149, 150, 151, 152, 153, 154, 155, 156, 157, 158, 159, 69, 70, 71, 72, 23, 596, 597, 598, 599, 600, 601, 602, 603, 604, 605] (by decide +kernel) (by decide +kernel)) (goodIn_sub (fun _ h => List.mem_append_left _ (List.mem_append_right _ h)) (by decide +kernel))) (goodIn_sub (fun _ h => List.mem_append_left _ (List.mem_append_left _ (List.mem_append_right _ h))) (by decide +kernel))
set_option maxRecDepth 20000 in
theorem gL_law_L_writeDown : GoodIn wsL_law (va_wsS RL 98 yL_writeDown wsL_writeDown) := goodIn_app (goodIn_of _ (by decide +kernel)) ggL_law_L_writeDown
set_option maxRecDepth 20000 in
theorem ggL_law_X1_writeDown : GoodIn wsL_law wsX1_writeDown := goodIn_r _ [163, 49, 164, 77, 33, 32, 165, 111, 112, 113, 5, 114, 50, 78, 79, 80, 51, 52, 53, 54, 166, 167, 168, 169, 29, 30, 170, 171, 172, 173, 174, 175, 176, 177, 178, 179, 180, 181, 154, 155, 156, 157, 158, 159, 115, 116, 117, 118, 31, 606, 607, 608, 609, 610, 611, 612, 613, 614, 615] (by decide +kernel) (by decide +kernel)
set_option maxRecDepth 20000 in
theorem gL_law_X1_writeDown : GoodIn wsL_law (wsV RL 101 RX1 yX1_writeDown wsX1_writeDown) := goodIn_app (goodIn_of _ (by decide +kernel)) ggL_law_X1_writeDown
set_option maxRecDepth 20000 in
theorem ggL_law_L_strike : GoodIn wsL_law wsL_strike := goodIn_ca (goodIn_r _ [184, 84, 185, 186, 187, 2, 188, 16, 18, 14, 189, 190, 191, 192, 93, 94, 134, 135, 136, 137, 19, 138, 139, 140, 596, 597, 598, 599, 600, 601, 602, 603, 604, 605] (by decide +kernel) (by decide +kernel)) (goodIn_sub (fun _ h => List.mem_append_right _ h) (by decide +kernel))
set_option maxRecDepth 20000 in
theorem gL_law_L_strike : GoodIn wsL_law (va_wsS RL 102 yL_strike wsL_strike) := goodIn_app (goodIn_of _ (by decide +kernel)) ggL_law_L_strike
set_option maxRecDepth 20000 in
theorem ggL_law_X1_strike : GoodIn wsL_law wsX1_strike := goodIn_r _ [196, 49, 164, 29, 30, 197, 198, 199, 5, 200, 78, 79, 80, 51, 52, 53, 54, 606, 607, 608, 609, 610, 611, 612, 613, 614, 615] (by decide +kernel) (by decide +kernel)
set_option maxRecDepth 20000 in
theorem gL_law_X1_strike : GoodIn wsL_law (wsV RL 104 RX1 yX1_strike wsX1_strike) := goodIn_app (goodIn_of _ (by decide +kernel)) ggL_law_X1_strike
set_option maxRecDepth 20000 in
theorem ggL_law_X0_things : GoodIn wsL_law wsX0_things := goodIn_r _ [204, 13, 596, 597, 598, 599, 600, 601, 602, 603, 604, 605] (by decide +kernel) (by decide +kernel)
set_option maxRecDepth 20000 in
theorem gL_law_X0_things : GoodIn wsL_law (wsV RL 105 RX0 yX0_things wsX0_things) := goodIn_app (goodIn_of _ (by decide +kernel)) ggL_law_X0_things
set_option maxRecDepth 20000 in
theorem ggL_law_X1_things : GoodIn wsL_law wsX1_things := goodIn_r _ [208, 50, 209, 210, 211, 5, 212, 49, 606, 607, 608, 609, 610, 611, 612, 613, 614, 615] (by decide +kernel) (by decide +kernel)
set_option maxRecDepth 20000 in
theorem gL_law_X1_things : GoodIn wsL_law (wsV RL 108 RX1 yX1_things wsX1_things) := goodIn_app (goodIn_of _ (by decide +kernel)) ggL_law_X1_things
set_option maxRecDepth 20000 in
theorem ggL_law_L_nightsWith : GoodIn wsL_law wsL_nightsWith := goodIn_ca (goodIn_r _ [215, 84, 216, 217, 218, 2, 219, 14, 16, 220, 221, 222, 223, 93, 94, 13, 224, 225, 226, 227, 228, 229, 596, 597, 598, 599, 600, 601, 602, 603, 604, 605] (by decide +kernel) (by decide +kernel)) (goodIn_sub (fun _ h => List.mem_append_right _ h) (by decide +kernel))
set_option maxRecDepth 20000 in
theorem gL_law_L_nightsWith : GoodIn wsL_law (va_wsS RL 109 yL_nightsWith wsL_nightsWith) := goodIn_app (goodIn_of _ (by decide +kernel)) ggL_law_L_nightsWith
set_option maxRecDepth 20000 in
theorem ggL_law_X1_nightsWith : GoodIn wsL_law wsX1_nightsWith := goodIn_r _ [233, 49, 234, 235, 236, 5, 237, 50, 78, 79, 80, 238, 239, 240, 241, 164, 29, 30, 242, 243, 244, 51, 52, 53, 54, 606, 607, 608, 609, 610, 611, 612, 613, 614, 615] (by decide +kernel) (by decide +kernel)
set_option maxRecDepth 20000 in
theorem gL_law_X1_nightsWith : GoodIn wsL_law (wsV RL 111 RX1 yX1_nightsWith wsX1_nightsWith) := goodIn_app (goodIn_of _ (by decide +kernel)) ggL_law_X1_nightsWith
set_option maxRecDepth 20000 in
theorem ggL_law_L_smudgesWith : GoodIn wsL_law wsL_smudgesWith := goodIn_ca (goodIn_r _ [247, 84, 248, 249, 250, 2, 251, 14, 18, 16, 220, 221, 222, 223, 93, 94, 13, 224, 225, 226, 227, 228, 229, 596, 597, 598, 599, 600, 601, 602, 603, 604, 605] (by decide +kernel) (by decide +kernel)) (goodIn_sub (fun _ h => List.mem_append_right _ h) (by decide +kernel))
set_option maxRecDepth 20000 in
theorem gL_law_L_smudgesWith : GoodIn wsL_law (va_wsS RL 112 yL_smudgesWith wsL_smudgesWith) := goodIn_app (goodIn_of _ (by decide +kernel)) ggL_law_L_smudgesWith
set_option maxRecDepth 20000 in
theorem ggL_law_X1_smudgesWith : GoodIn wsL_law wsX1_smudgesWith := goodIn_r _ [255, 49, 234, 235, 236, 5, 237, 50, 78, 79, 80, 238, 239, 240, 241, 164, 29, 30, 242, 243, 244, 51, 52, 53, 54, 606, 607, 608, 609, 610, 611, 612, 613, 614, 615] (by decide +kernel) (by decide +kernel)
set_option maxRecDepth 20000 in
theorem gL_law_X1_smudgesWith : GoodIn wsL_law (wsV RL 114 RX1 yX1_smudgesWith wsX1_smudgesWith) := goodIn_app (goodIn_of _ (by decide +kernel)) ggL_law_X1_smudgesWith
set_option maxRecDepth 20000 in
theorem ggL_law_L_isCleared : GoodIn wsL_law wsL_isCleared := goodIn_ca (goodIn_r _ [258, 84, 259, 260, 261, 2, 262, 220, 221, 222, 223, 93, 94, 13, 263, 264, 265, 266, 14, 18, 16, 224, 225, 226, 227, 228, 229, 596, 597, 598, 599, 600, 601, 602, 603, 604, 605] (by decide +kernel) (by decide +kernel)) (goodIn_sub (fun _ h => List.mem_append_right _ h) (by decide +kernel))
set_option maxRecDepth 20000 in
theorem gL_law_L_isCleared : GoodIn wsL_law (va_wsS RL 115 yL_isCleared wsL_isCleared) := goodIn_app (goodIn_of _ (by decide +kernel)) ggL_law_L_isCleared
set_option maxRecDepth 20000 in
theorem ggL_law_X1_isCleared : GoodIn wsL_law wsX1_isCleared := goodIn_r _ [270, 49, 234, 235, 236, 5, 237, 50, 78, 79, 80, 271, 272, 273, 274, 164, 30, 29, 242, 243, 244, 275, 276, 277, 278, 606, 607, 608, 609, 610, 611, 612, 613, 614, 615] (by decide +kernel) (by decide +kernel)
set_option maxRecDepth 20000 in
theorem gL_law_X1_isCleared : GoodIn wsL_law (wsV RL 117 RX1 yX1_isCleared wsX1_isCleared) := goodIn_app (goodIn_of _ (by decide +kernel)) ggL_law_X1_isCleared
set_option maxRecDepth 20000 in
theorem ggL_law_L_isProved : GoodIn wsL_law wsL_isProved := goodIn_ca (goodIn_r _ [281, 84, 282, 283, 284, 2, 285, 14, 16, 18, 220, 221, 222, 223, 93, 94, 13, 263, 264, 265, 266, 227, 228, 229, 224, 225, 226, 596, 597, 598, 599, 600, 601, 602, 603, 604, 605] (by decide +kernel) (by decide +kernel)) (goodIn_sub (fun _ h => List.mem_append_right _ h) (by decide +kernel))
set_option maxRecDepth 20000 in
theorem gL_law_L_isProved : GoodIn wsL_law (va_wsS RL 118 yL_isProved wsL_isProved) := goodIn_app (goodIn_of _ (by decide +kernel)) ggL_law_L_isProved
set_option maxRecDepth 20000 in
theorem ggL_law_X1_isProved : GoodIn wsL_law wsX1_isProved := goodIn_r _ [289, 49, 234, 235, 236, 5, 237, 50, 78, 79, 80, 290, 291, 292, 293, 164, 30, 29, 271, 272, 273, 274, 242, 243, 244, 275, 276, 277, 278, 606, 607, 608, 609, 610, 611, 612, 613, 614, 615] (by decide +kernel) (by decide +kernel)
set_option maxRecDepth 20000 in
theorem gL_law_X1_isProved : GoodIn wsL_law (wsV RL 120 RX1 yX1_isProved wsX1_isProved) := goodIn_app (goodIn_of _ (by decide +kernel)) ggL_law_X1_isProved
set_option maxRecDepth 20000 in
theorem ggL_law_L_setsWith : GoodIn wsL_law wsL_setsWith := goodIn_ca (goodIn_r _ [296, 84, 297, 298, 299, 2, 300, 220, 221, 222, 223, 93, 94, 13, 227, 228, 229, 301, 302, 303, 304, 99, 100, 101, 102, 149, 150, 151, 152, 19, 596, 597, 598, 599, 600, 601, 602, 603, 604, 605] (by decide +kernel) (by decide +kernel)) (goodIn_sub (fun _ h => List.mem_append_right _ h) (by decide +kernel))
set_option maxRecDepth 20000 in
theorem gL_law_L_setsWith : GoodIn wsL_law (va_wsS RL 121 yL_setsWith wsL_setsWith) := goodIn_app (goodIn_of _ (by decide +kernel)) ggL_law_L_setsWith
set_option maxRecDepth 20000 in
theorem ggL_law_X1_setsWith : GoodIn wsL_law wsX1_setsWith := goodIn_r _ [308, 49, 234, 235, 236, 5, 237, 50, 78, 79, 80, 309, 310, 311, 312, 111, 112, 113, 114, 242, 243, 244, 174, 175, 176, 177, 164, 29, 30, 178, 179, 180, 51, 52, 53, 54, 606, 607, 608, 609, 610, 611, 612, 613, 614, 615] (by decide +kernel) (by decide +kernel)
set_option maxRecDepth 20000 in
theorem gL_law_X1_setsWith : GoodIn wsL_law (wsV RL 123 RX1 yX1_setsWith wsX1_setsWith) := goodIn_app (goodIn_of _ (by decide +kernel)) ggL_law_X1_setsWith
set_option maxRecDepth 20000 in
theorem ggL_law_X0_nights : GoodIn wsL_law wsX0_nights := goodIn_r _ [316, 14, 596, 597, 598, 599, 600, 601, 602, 603, 604, 605] (by decide +kernel) (by decide +kernel)
set_option maxRecDepth 20000 in
theorem gL_law_X0_nights : GoodIn wsL_law (wsV RL 124 RX0 yX0_nights wsX0_nights) := goodIn_app (goodIn_of _ (by decide +kernel)) ggL_law_X0_nights
set_option maxRecDepth 20000 in
theorem ggL_law_X1_nights : GoodIn wsL_law wsX1_nights := goodIn_r _ [320, 164, 209, 210, 211, 5, 212, 49, 606, 607, 608, 609, 610, 611, 612, 613, 614, 615] (by decide +kernel) (by decide +kernel)
set_option maxRecDepth 20000 in
theorem gL_law_X1_nights : GoodIn wsL_law (wsV RL 127 RX1 yX1_nights wsX1_nights) := goodIn_app (goodIn_of _ (by decide +kernel)) ggL_law_X1_nights
set_option maxRecDepth 20000 in
theorem ggL_law_X0_smudges : GoodIn wsL_law wsX0_smudges := goodIn_r _ [324, 14, 18, 596, 597, 598, 599, 600, 601, 602, 603, 604, 605] (by decide +kernel) (by decide +kernel)
set_option maxRecDepth 20000 in
theorem gL_law_X0_smudges : GoodIn wsL_law (wsV RL 128 RX0 yX0_smudges wsX0_smudges) := goodIn_app (goodIn_of _ (by decide +kernel)) ggL_law_X0_smudges
set_option maxRecDepth 20000 in
theorem ggL_law_X1_smudges : GoodIn wsL_law wsX1_smudges := goodIn_r _ [328, 329, 330, 331, 5, 332, 164, 30, 209, 210, 211, 212, 49, 606, 607, 608, 609, 610, 611, 612, 613, 614, 615] (by decide +kernel) (by decide +kernel)
set_option maxRecDepth 20000 in
theorem gL_law_X1_smudges : GoodIn wsL_law (wsV RL 131 RX1 yX1_smudges wsX1_smudges) := goodIn_app (goodIn_of _ (by decide +kernel)) ggL_law_X1_smudges
set_option maxRecDepth 20000 in
theorem ggL_law_L_usedIn : GoodIn wsL_law wsL_usedIn := goodIn_ca (goodIn_r _ [335, 84, 336, 337, 338, 2, 339, 16, 189, 190, 191, 192, 93, 94, 14, 596, 597, 598, 599, 600, 601, 602, 603, 604, 605] (by decide +kernel) (by decide +kernel)) (goodIn_sub (fun _ h => List.mem_append_right _ h) (by decide +kernel))
set_option maxRecDepth 20000 in
theorem gL_law_L_usedIn : GoodIn wsL_law (va_wsS RL 132 yL_usedIn wsL_usedIn) := goodIn_app (goodIn_of _ (by decide +kernel)) ggL_law_L_usedIn
set_option maxRecDepth 20000 in
theorem ggL_law_X1_usedIn : GoodIn wsL_law wsX1_usedIn := goodIn_r _ [343, 49, 29, 197, 198, 199, 5, 200, 164, 78, 79, 80, 51, 52, 53, 54, 606, 607, 608, 609, 610, 611, 612, 613, 614, 615] (by decide +kernel) (by decide +kernel)
set_option maxRecDepth 20000 in
theorem gL_law_X1_usedIn : GoodIn wsL_law (wsV RL 134 RX1 yX1_usedIn wsX1_usedIn) := goodIn_app (goodIn_of _ (by decide +kernel)) ggL_law_X1_usedIn
set_option maxRecDepth 20000 in
theorem ggL_law_L_isSmudged : GoodIn wsL_law wsL_isSmudged := goodIn_ca (goodIn_r _ [346, 84, 347, 348, 349, 2, 350, 18, 189, 190, 191, 192, 93, 94, 14, 596, 597, 598, 599, 600, 601, 602, 603, 604, 605] (by decide +kernel) (by decide +kernel)) (goodIn_sub (fun _ h => List.mem_append_right _ h) (by decide +kernel))
set_option maxRecDepth 20000 in
theorem gL_law_L_isSmudged : GoodIn wsL_law (va_wsS RL 135 yL_isSmudged wsL_isSmudged) := goodIn_app (goodIn_of _ (by decide +kernel)) ggL_law_L_isSmudged
set_option maxRecDepth 20000 in
theorem ggL_law_X1_isSmudged : GoodIn wsL_law wsX1_isSmudged := goodIn_r _ [354, 49, 30, 197, 198, 199, 5, 200, 164, 78, 79, 80, 275, 276, 277, 278, 606, 607, 608, 609, 610, 611, 612, 613, 614, 615] (by decide +kernel) (by decide +kernel)
set_option maxRecDepth 20000 in
theorem gL_law_X1_isSmudged : GoodIn wsL_law (wsV RL 137 RX1 yX1_isSmudged wsX1_isSmudged) := goodIn_app (goodIn_of _ (by decide +kernel)) ggL_law_X1_isSmudged
set_option maxRecDepth 20000 in
theorem ggL_law_X0_agree : GoodIn wsL_law wsX0_agree := goodIn_r _ [358, 359, 360, 361, 2, 362, 14, 363, 364, 365, 366, 99, 100, 101, 102, 13, 149, 150, 151, 152, 19, 596, 597, 598, 599, 600, 601, 602, 603, 604, 605] (by decide +kernel) (by decide +kernel)
set_option maxRecDepth 20000 in
theorem gL_law_X0_agree : GoodIn wsL_law (wsV RL 138 RX0 yX0_agree wsX0_agree) := goodIn_app (goodIn_of _ (by decide +kernel)) ggL_law_X0_agree
set_option maxRecDepth 20000 in
theorem ggL_law_X1_agree : GoodIn wsL_law wsX1_agree := goodIn_r _ [370, 49, 170, 171, 172, 5, 173, 111, 112, 113, 114, 50, 174, 175, 176, 177, 164, 29, 30, 178, 179, 180, 181, 154, 155, 156, 157, 158, 159, 606, 607, 608, 609, 610, 611, 612, 613, 614, 615] (by decide +kernel) (by decide +kernel)
set_option maxRecDepth 20000 in
theorem gL_law_X1_agree : GoodIn wsL_law (wsV RL 142 RX1 yX1_agree wsX1_agree) := goodIn_app (goodIn_of _ (by decide +kernel)) ggL_law_X1_agree
set_option maxRecDepth 20000 in
theorem ggL_law_X0_astronomers : GoodIn wsL_law wsX0_astronomers := goodIn_r _ [374, 20, 596, 597, 598, 599, 600, 601, 602, 603, 604, 605] (by decide +kernel) (by decide +kernel)
set_option maxRecDepth 20000 in
theorem gL_law_X0_astronomers : GoodIn wsL_law (wsV RL 143 RX0 yX0_astronomers wsX0_astronomers) := goodIn_app (goodIn_of _ (by decide +kernel)) ggL_law_X0_astronomers
set_option maxRecDepth 20000 in
theorem ggL_law_X1_astronomers : GoodIn wsL_law wsX1_astronomers := goodIn_r _ [378, 77, 209, 210, 211, 5, 212, 49, 606, 607, 608, 609, 610, 611, 612, 613, 614, 615] (by decide +kernel) (by decide +kernel)
set_option maxRecDepth 20000 in
theorem gL_law_X1_astronomers : GoodIn wsL_law (wsV RL 146 RX1 yX1_astronomers wsX1_astronomers) := goodIn_app (goodIn_of _ (by decide +kernel)) ggL_law_X1_astronomers
set_option maxRecDepth 20000 in
theorem ggL_law_L_blamedBy : GoodIn wsL_law wsL_blamedBy := goodIn_ca (goodIn_r _ [381, 84, 382, 383, 384, 2, 385, 21, 89, 90, 91, 92, 93, 94, 20, 596, 597, 598, 599, 600, 601, 602, 603, 604, 605] (by decide +kernel) (by decide +kernel)) (goodIn_sub (fun _ h => List.mem_append_right _ h) (by decide +kernel))
set_option maxRecDepth 20000 in
theorem gL_law_L_blamedBy : GoodIn wsL_law (va_wsS RL 147 yL_blamedBy wsL_blamedBy) := goodIn_app (goodIn_of _ (by decide +kernel)) ggL_law_L_blamedBy
set_option maxRecDepth 20000 in
theorem ggL_law_X1_blamedBy : GoodIn wsL_law wsX1_blamedBy := goodIn_r _ [389, 49, 33, 107, 108, 109, 5, 110, 77, 78, 79, 80, 51, 52, 53, 54, 606, 607, 608, 609, 610, 611, 612, 613, 614, 615] (by decide +kernel) (by decide +kernel)
set_option maxRecDepth 20000 in
theorem gL_law_X1_blamedBy : GoodIn wsL_law (wsV RL 149 RX1 yX1_blamedBy wsX1_blamedBy) := goodIn_app (goodIn_of _ (by decide +kernel)) ggL_law_X1_blamedBy
set_option maxRecDepth 20000 in
theorem ggL_law_L_stubbornnessOf : GoodIn wsL_law wsL_stubbornnessOf := goodIn_ca (goodIn_r _ [392, 84, 393, 394, 395, 2, 396, 22, 89, 90, 91, 92, 93, 94, 20, 596, 597, 598, 599, 600, 601, 602, 603, 604, 605] (by decide +kernel) (by decide +kernel)) (goodIn_sub (fun _ h => List.mem_append_right _ h) (by decide +kernel))
set_option maxRecDepth 20000 in
theorem gL_law_L_stubbornnessOf : GoodIn wsL_law (va_wsS RL 150 yL_stubbornnessOf wsL_stubbornnessOf) := goodIn_app (goodIn_of _ (by decide +kernel)) ggL_law_L_stubbornnessOf
set_option maxRecDepth 20000 in
theorem ggL_law_X1_stubbornnessOf : GoodIn wsL_law wsX1_stubbornnessOf := goodIn_r _ [400, 49, 32, 107, 108, 109, 5, 110, 77, 78, 79, 80, 51, 52, 53, 54, 606, 607, 608, 609, 610, 611, 612, 613, 614, 615] (by decide +kernel) (by decide +kernel)
set_option maxRecDepth 20000 in
theorem gL_law_X1_stubbornnessOf : GoodIn wsL_law (wsV RL 152 RX1 yX1_stubbornnessOf wsX1_stubbornnessOf) := goodIn_app (goodIn_of _ (by decide +kernel)) ggL_law_X1_stubbornnessOf
set_option maxRecDepth 20000 in
theorem ggL_law_L_unexplainedBy : GoodIn wsL_law wsL_unexplainedBy := goodIn_ca (goodIn_r _ [403, 84, 404, 405, 406, 2, 407, 21, 89, 90, 91, 92, 93, 94, 20, 149, 150, 151, 152, 19, 596, 597, 598, 599, 600, 601, 602, 603, 604, 605] (by decide +kernel) (by decide +kernel)) (goodIn_sub (fun _ h => List.mem_append_right _ h) (by decide +kernel))
set_option maxRecDepth 20000 in
theorem gL_law_L_unexplainedBy : GoodIn wsL_law (va_wsS RL 153 yL_unexplainedBy wsL_unexplainedBy) := goodIn_app (goodIn_of _ (by decide +kernel)) ggL_law_L_unexplainedBy
set_option maxRecDepth 20000 in
theorem ggL_law_X1_unexplainedBy : GoodIn wsL_law wsX1_unexplainedBy := goodIn_r _ [411, 49, 33, 107, 108, 109, 5, 110, 77, 78, 79, 80, 174, 175, 176, 177, 164, 29, 30, 178, 179, 180, 51, 52, 53, 54, 606, 607, 608, 609, 610, 611, 612, 613, 614, 615] (by decide +kernel) (by decide +kernel)
set_option maxRecDepth 20000 in
theorem gL_law_X1_unexplainedBy : GoodIn wsL_law (wsV RL 155 RX1 yX1_unexplainedBy wsX1_unexplainedBy) := goodIn_app (goodIn_of _ (by decide +kernel)) ggL_law_X1_unexplainedBy
set_option maxRecDepth 20000 in
theorem ggL_law_L_votesFor : GoodIn wsL_law wsL_votesFor := goodIn_ca (goodIn_r _ [414, 84, 415, 416, 417, 2, 418, 20, 21, 220, 221, 222, 223, 93, 94, 13, 224, 225, 226, 227, 228, 229, 596, 597, 598, 599, 600, 601, 602, 603, 604, 605] (by decide +kernel) (by decide +kernel)) (goodIn_sub (fun _ h => List.mem_append_right _ h) (by decide +kernel))
set_option maxRecDepth 20000 in
theorem gL_law_L_votesFor : GoodIn wsL_law (va_wsS RL 156 yL_votesFor wsL_votesFor) := goodIn_app (goodIn_of _ (by decide +kernel)) ggL_law_L_votesFor
set_option maxRecDepth 20000 in
theorem ggL_law_X1_votesFor : GoodIn wsL_law wsX1_votesFor := goodIn_r _ [422, 49, 234, 235, 236, 5, 237, 50, 78, 79, 80, 423, 424, 425, 426, 77, 33, 242, 243, 244, 51, 52, 53, 54, 606, 607, 608, 609, 610, 611, 612, 613, 614, 615] (by decide +kernel) (by decide +kernel)
set_option maxRecDepth 20000 in
theorem gL_law_X1_votesFor : GoodIn wsL_law (wsV RL 158 RX1 yX1_votesFor wsX1_votesFor) := goodIn_app (goodIn_of _ (by decide +kernel)) ggL_law_X1_votesFor
set_option maxRecDepth 20000 in
theorem ggL_law_X0_vote : GoodIn wsL_law wsX0_vote := goodIn_ca (goodIn_r _ [430, 13, 20, 431, 416, 417, 2, 418, 21, 220, 221, 222, 223, 93, 94, 224, 225, 226, 227, 228, 229, 596, 597, 598, 599, 600, 601, 602, 603, 604, 605] (by decide +kernel) (by decide +kernel)) (goodIn_sub (fun _ h => List.mem_append_right _ h) (by decide +kernel))
set_option maxRecDepth 20000 in
theorem gL_law_X0_vote : GoodIn wsL_law (wsV RL 159 RX0 yX0_vote wsX0_vote) := goodIn_app (goodIn_of _ (by decide +kernel)) ggL_law_X0_vote
set_option maxRecDepth 20000 in
theorem ggL_law_X1_vote : GoodIn wsL_law wsX1_vote := goodIn_r _ [435, 436, 437, 438, 5, 439, 50, 77, 423, 424, 425, 426, 33, 242, 243, 244, 209, 210, 211, 212, 49, 606, 607, 608, 609, 610, 611, 612, 613, 614, 615] (by decide +kernel) (by decide +kernel)
set_option maxRecDepth 20000 in
theorem gL_law_X1_vote : GoodIn wsL_law (wsV RL 162 RX1 yX1_vote wsX1_vote) := goodIn_app (goodIn_of _ (by decide +kernel)) ggL_law_X1_vote
set_option maxRecDepth 20000 in
theorem ggL_law_X0_changesOfMind : GoodIn wsL_law wsX0_changesOfMind := goodIn_r _ [443, 24, 596, 597, 598, 599, 600, 601, 602, 603, 604, 605] (by decide +kernel) (by decide +kernel)
set_option maxRecDepth 20000 in
theorem gL_law_X0_changesOfMind : GoodIn wsL_law (wsV RL 163 RX0 yX0_changesOfMind wsX0_changesOfMind) := goodIn_app (goodIn_of _ (by decide +kernel)) ggL_law_X0_changesOfMind
set_option maxRecDepth 20000 in
theorem ggL_law_X1_changesOfMind : GoodIn wsL_law wsX1_changesOfMind := goodIn_r _ [447, 165, 209, 210, 211, 5, 212, 49, 606, 607, 608, 609, 610, 611, 612, 613, 614, 615] (by decide +kernel) (by decide +kernel)
set_option maxRecDepth 20000 in
theorem gL_law_X1_changesOfMind : GoodIn wsL_law (wsV RL 166 RX1 yX1_changesOfMind wsX1_changesOfMind) := goodIn_app (goodIn_of _ (by decide +kernel)) ggL_law_X1_changesOfMind
set_option maxRecDepth 20000 in
theorem ggL_law_L_explainsAll : GoodIn wsL_law wsL_explainsAll := goodIn_ca (goodIn_r _ [450, 62, 451, 452, 453, 2, 454, 95, 96, 97, 98, 67, 68, 99, 100, 101, 102, 13, 149, 150, 151, 152, 19, 596, 597, 598, 599, 600, 601, 602, 603, 604, 605] (by decide +kernel) (by decide +kernel)) (goodIn_sub (fun _ h => List.mem_append_left _ (List.mem_append_right _ h)) (by decide +kernel))
set_option maxRecDepth 20000 in
theorem gL_law_L_explainsAll : GoodIn wsL_law (va_wsS RL 167 yL_explainsAll wsL_explainsAll) := goodIn_app (goodIn_of _ (by decide +kernel)) ggL_law_L_explainsAll
set_option maxRecDepth 20000 in
theorem ggL_law_X1_explainsAll : GoodIn wsL_law wsX1_explainsAll := goodIn_r _ [458, 49, 111, 112, 113, 5, 114, 50, 78, 79, 80, 174, 175, 176, 177, 164, 29, 30, 178, 179, 180, 275, 276, 277, 278, 606, 607, 608, 609, 610, 611, 612, 613, 614, 615] (by decide +kernel) (by decide +kernel)
set_option maxRecDepth 20000 in
theorem gL_law_X1_explainsAll : GoodIn wsL_law (wsV RL 169 RX1 yX1_explainsAll wsX1_explainsAll) := goodIn_app (goodIn_of _ (by decide +kernel)) ggL_law_X1_explainsAll
set_option maxRecDepth 20000 in
theorem ggL_law_X0_explanations : GoodIn wsL_law wsX0_explanations := goodIn_r _ [462, 99, 100, 101, 2, 102, 13, 149, 150, 151, 152, 19, 596, 597, 598, 599, 600, 601, 602, 603, 604, 605] (by decide +kernel) (by decide +kernel)
set_option maxRecDepth 20000 in
theorem gL_law_X0_explanations : GoodIn wsL_law (wsV RL 170 RX0 yX0_explanations wsX0_explanations) := goodIn_app (goodIn_of _ (by decide +kernel)) ggL_law_X0_explanations
set_option maxRecDepth 20000 in
theorem ggL_law_X1_explanations : GoodIn wsL_law wsX1_explanations := goodIn_r _ [466, 467, 468, 469, 5, 470, 111, 112, 113, 114, 50, 174, 175, 176, 177, 164, 29, 30, 178, 179, 180, 209, 210, 211, 212, 49, 606, 607, 608, 609, 610, 611, 612, 613, 614, 615] (by decide +kernel) (by decide +kernel)
set_option maxRecDepth 20000 in
theorem gL_law_X1_explanations : GoodIn wsL_law (wsV RL 173 RX1 yX1_explanations wsX1_explanations) := goodIn_app (goodIn_of _ (by decide +kernel)) ggL_law_X1_explanations
set_option maxRecDepth 20000 in
theorem ggL_law_X0_simplest : GoodIn wsL_law wsX0_simplest := goodIn_r _ [148, 99, 100, 101, 2, 102, 13, 149, 150, 151, 152, 19, 153, 154, 155, 156, 157, 158, 159, 596, 597, 598, 599, 600, 601, 602, 603, 604, 605] (by decide +kernel) (by decide +kernel)
set_option maxRecDepth 20000 in
theorem gL_law_X0_simplest : GoodIn wsL_law (wsV RL 174 RX0 yX0_simplest wsX0_simplest) := goodIn_app (goodIn_of _ (by decide +kernel)) ggL_law_X0_simplest
set_option maxRecDepth 20000 in
theorem ggL_law_X1_simplest : GoodIn wsL_law wsX1_simplest := goodIn_r _ [475, 170, 171, 172, 5, 173, 111, 112, 113, 114, 50, 174, 175, 176, 177, 164, 29, 30, 178, 179, 180, 181, 154, 155, 156, 157, 158, 159, 209, 210, 211, 212, 49, 606, 607, 608, 609, 610, 611, 612, 613, 614, 615] (by decide +kernel) (by decide +kernel)
set_option maxRecDepth 20000 in
theorem gL_law_X1_simplest : GoodIn wsL_law (wsV RL 177 RX1 yX1_simplest wsX1_simplest) := goodIn_app (goodIn_of _ (by decide +kernel)) ggL_law_X1_simplest
set_option maxRecDepth 20000 in
theorem ggL_law_X0_surelyToBlame : GoodIn wsL_law wsX0_surelyToBlame := goodIn_r _ [479, 480, 356, 357, 2, 358, 359, 360, 361, 362, 14, 363, 364, 365, 366, 99, 100, 101, 102, 13, 149, 150, 151, 152, 19, 596, 597, 598, 599, 600, 601, 602, 603, 604, 605] (by decide +kernel) (by decide +kernel)
set_option maxRecDepth 20000 in
theorem gL_law_X0_surelyToBlame : GoodIn wsL_law (wsV RL 178 RX0 yX0_surelyToBlame wsX0_surelyToBlame) := goodIn_app (goodIn_of _ (by decide +kernel)) ggL_law_X0_surelyToBlame
set_option maxRecDepth 20000 in
theorem ggL_law_X1_surelyToBlame : GoodIn wsL_law wsX1_surelyToBlame := goodIn_r _ [484, 485, 486, 487, 5, 488, 111, 112, 113, 114, 50, 174, 175, 176, 177, 164, 29, 30, 178, 179, 180, 209, 210, 211, 212, 49, 606, 607, 608, 609, 610, 611, 612, 613, 614, 615] (by decide +kernel) (by decide +kernel)
set_option maxRecDepth 20000 in
theorem gL_law_X1_surelyToBlame : GoodIn wsL_law (wsV RL 181 RX1 yX1_surelyToBlame wsX1_surelyToBlame) := goodIn_app (goodIn_of _ (by decide +kernel)) ggL_law_X1_surelyToBlame
set_option maxRecDepth 20000 in
theorem ggL_law_X0_nightsToDoubt : GoodIn wsL_law wsX0_nightsToDoubt := goodIn_r _ [362, 14, 363, 364, 365, 366, 99, 100, 101, 2, 102, 13, 149, 150, 151, 152, 19, 596, 597, 598, 599, 600, 601, 602, 603, 604, 605] (by decide +kernel) (by decide +kernel)
set_option maxRecDepth 20000 in
theorem gL_law_X0_nightsToDoubt : GoodIn wsL_law (wsV RL 182 RX0 yX0_nightsToDoubt wsX0_nightsToDoubt) := goodIn_app (goodIn_of _ (by decide +kernel)) ggL_law_X0_nightsToDoubt
set_option maxRecDepth 20000 in
theorem ggL_law_X1_nightsToDoubt : GoodIn wsL_law wsX1_nightsToDoubt := goodIn_r _ [493, 49, 164, 494, 364, 365, 366, 111, 112, 113, 5, 114, 50, 174, 175, 176, 177, 29, 30, 178, 179, 180, 606, 607, 608, 609, 610, 611, 612, 613, 614, 615] (by decide +kernel) (by decide +kernel)
set_option maxRecDepth 20000 in
theorem gL_law_X1_nightsToDoubt : GoodIn wsL_law (wsV RL 185 RX1 yX1_nightsToDoubt wsX1_nightsToDoubt) := goodIn_app (goodIn_of _ (by decide +kernel)) ggL_law_X1_nightsToDoubt
set_option maxRecDepth 20000 in
theorem ggL_law_L_leftIfSmudged : GoodIn wsL_law wsL_leftIfSmudged := goodIn_ca (goodIn_r _ [497, 62, 498, 499, 500, 2, 501, 126, 127, 128, 129, 67, 68, 99, 100, 101, 102, 13, 301, 302, 303, 304, 149, 150, 151, 152, 19, 596, 597, 598, 599, 600, 601, 602, 603, 604, 605] (by decide +kernel) (by decide +kernel)) (goodIn_sub (fun _ h => List.mem_append_left _ (List.mem_append_right _ h)) (by decide +kernel))
set_option maxRecDepth 20000 in
theorem gL_law_L_leftIfSmudged : GoodIn wsL_law (va_wsS RL 186 yL_leftIfSmudged wsL_leftIfSmudged) := goodIn_app (goodIn_of _ (by decide +kernel)) ggL_law_L_leftIfSmudged
set_option maxRecDepth 20000 in
theorem ggL_law_X1_leftIfSmudged : GoodIn wsL_law wsX1_leftIfSmudged := goodIn_r _ [505, 49, 111, 112, 113, 5, 114, 50, 78, 79, 80, 506, 507, 508, 509, 174, 175, 176, 177, 164, 29, 30, 178, 179, 180, 51, 52, 53, 54, 606, 607, 608, 609, 610, 611, 612, 613, 614, 615] (by decide +kernel) (by decide +kernel)
set_option maxRecDepth 20000 in
theorem gL_law_X1_leftIfSmudged : GoodIn wsL_law (wsV RL 188 RX1 yX1_leftIfSmudged wsX1_leftIfSmudged) := goodIn_app (goodIn_of _ (by decide +kernel)) ggL_law_X1_leftIfSmudged
set_option maxRecDepth 20000 in
theorem ggL_law_X0_bestNight : GoodIn wsL_law wsX0_bestNight := goodIn_r _ [513, 514, 515, 365, 516, 517, 460, 461, 2, 462, 99, 100, 101, 102, 13, 149, 150, 151, 152, 19, 301, 302, 303, 304, 596, 597, 598, 599, 600, 601, 602, 603, 604, 605] (by decide +kernel) (by decide +kernel)
set_option maxRecDepth 20000 in
theorem gL_law_X0_bestNight : GoodIn wsL_law (wsV RL 189 RX0 yX0_bestNight wsX0_bestNight) := goodIn_app (goodIn_of _ (by decide +kernel)) ggL_law_X0_bestNight
set_option maxRecDepth 20000 in
theorem ggL_law_X1_bestNight : GoodIn wsL_law wsX1_bestNight := goodIn_r _ [521, 49, 522, 515, 365, 516, 467, 468, 469, 5, 470, 111, 112, 113, 114, 50, 174, 175, 176, 177, 164, 29, 30, 178, 179, 180, 506, 507, 508, 509, 606, 607, 608, 609, 610, 611, 612, 613, 614, 615] (by decide +kernel) (by decide +kernel)
set_option maxRecDepth 20000 in
theorem gL_law_X1_bestNight : GoodIn wsL_law (wsV RL 192 RX1 yX1_bestNight wsX1_bestNight) := goodIn_app (goodIn_of _ (by decide +kernel)) ggL_law_X1_bestNight
set_option maxRecDepth 20000 in
theorem ggL_law_L_wouldChange : GoodIn wsL_law wsL_wouldChange := goodIn_ca (goodIn_ca (goodIn_r _ [525, 62, 38, 526, 527, 528, 2, 529, 20, 21, 22, 126, 127, 128, 129, 67, 68, 99, 100, 101, 102, 13, 130, 131, 132, 133, 43, 44, 14, 530, 531, 532, 533, 149, 150, 151, 152, 19, 138, 139, 140, 596, 597, 598, 599, 600, 601, 602, 603, 604, 605] (by decide +kernel) (by decide +kernel)) (goodIn_sub (fun _ h => List.mem_append_left _ (List.mem_append_right _ h)) (by decide +kernel))) (goodIn_sub (fun _ h => List.mem_append_left _ (List.mem_append_left _ (List.mem_append_right _ h))) (by decide +kernel))
set_option maxRecDepth 20000 in
theorem gL_law_L_wouldChange : GoodIn wsL_law (va_wsS RL 193 yL_wouldChange wsL_wouldChange) := goodIn_app (goodIn_of _ (by decide +kernel)) ggL_law_L_wouldChange
set_option maxRecDepth 20000 in
theorem ggL_law_X1_wouldChange : GoodIn wsL_law wsX1_wouldChange := goodIn_r _ [537, 49, 164, 77, 32, 33, 111, 112, 113, 5, 114, 50, 78, 79, 80, 51, 52, 53, 54, 166, 167, 168, 169, 29, 30, 170, 171, 172, 173, 174, 175, 176, 177, 178, 179, 180, 181, 154, 155, 156, 157, 158, 159, 606, 607, 608, 609, 610, 611, 612, 613, 614, 615] (by decide +kernel) (by decide +kernel)
set_option maxRecDepth 20000 in
theorem gL_law_X1_wouldChange : GoodIn wsL_law (wsV RL 195 RX1 yX1_wouldChange wsX1_wouldChange) := goodIn_app (goodIn_of _ (by decide +kernel)) ggL_law_X1_wouldChange
set_option maxRecDepth 20000 in
theorem ggL_law_X0_meanBlame : GoodIn wsL_law wsX0_meanBlame := goodIn_r _ [541, 20, 21, 153, 154, 155, 156, 157, 158, 159, 596, 597, 598, 599, 600, 601, 602, 603, 604, 605] (by decide +kernel) (by decide +kernel)
set_option maxRecDepth 20000 in
theorem gL_law_X0_meanBlame : GoodIn wsL_law (wsV RL 196 RX0 yX0_meanBlame wsX0_meanBlame) := goodIn_app (goodIn_of _ (by decide +kernel)) ggL_law_X0_meanBlame
set_option maxRecDepth 20000 in
theorem ggL_law_X1_meanBlame : GoodIn wsL_law wsX1_meanBlame := goodIn_r _ [545, 49, 77, 33, 181, 154, 155, 156, 157, 158, 159, 606, 607, 608, 609, 610, 611, 612, 613, 614, 615] (by decide +kernel) (by decide +kernel)
set_option maxRecDepth 20000 in
theorem gL_law_X1_meanBlame : GoodIn wsL_law (wsV RL 200 RX1 yX1_meanBlame wsX1_meanBlame) := goodIn_app (goodIn_of _ (by decide +kernel)) ggL_law_X1_meanBlame
set_option maxRecDepth 20000 in
theorem ggL_law_X0_digest : GoodIn wsL_law wsX0_digest := goodIn_ca (goodIn_r _ [549, 550, 551, 202, 203, 2, 204, 13, 552, 553, 554, 555, 556, 314, 315, 316, 14, 557, 322, 323, 324, 18, 480, 356, 357, 358, 359, 360, 361, 362, 363, 364, 365, 366, 99, 100, 101, 102, 149, 150, 151, 152, 19, 558, 559, 560, 561, 372, 373, 374, 20, 562, 428, 429, 430, 431, 416, 417, 418, 21, 220, 221, 222, 223, 93, 94, 224, 225, 226, 227, 228, 229, 563, 441, 442, 443, 24, 517, 460, 461, 462, 145, 146, 147, 148, 153, 154, 155, 156, 157, 158, 159, 564, 477, 478, 479, 565, 566, 567, 568, 569, 217, 218, 219, 16, 570, 249, 250, 251, 571, 260, 261, 262, 263, 264, 265, 266, 572, 283, 284, 285, 573, 298, 299, 300, 301, 302, 303, 304, 574, 575, 576, 577, 578, 337, 338, 339, 189, 190, 191, 192, 579, 348, 349, 350, 580, 581, 582, 583, 584, 383, 384, 385, 89, 90, 91, 92, 585, 394, 395, 396, 22, 586, 405, 406, 407, 596, 597, 598, 599, 600, 601, 602, 603, 604, 605] (by decide +kernel) (by decide +kernel)) (goodIn_sub (fun _ h => List.mem_append_right _ h) (by decide +kernel))
set_option maxRecDepth 20000 in
theorem gL_law_X0_digest : GoodIn wsL_law (wsV RL 201 RX0 yX0_digest wsX0_digest) := goodIn_app (goodIn_of _ (by decide +kernel)) ggL_law_X0_digest
set_option maxRecDepth 20000 in
theorem ggL_law_X1_digest : GoodIn wsL_law wsX1_digest := goodIn_r _ [590, 49, 15, 50, 164, 77, 165, 591, 592, 29, 30, 33, 32, 329, 330, 331, 5, 332, 170, 171, 172, 173, 111, 112, 113, 114, 174, 175, 176, 177, 178, 179, 180, 181, 154, 155, 156, 157, 158, 159, 593, 594, 595, 436, 437, 438, 439, 423, 424, 425, 426, 242, 243, 244, 467, 468, 469, 470, 485, 486, 487, 488, 238, 239, 240, 241, 271, 272, 273, 274, 290, 291, 292, 293, 309, 310, 311, 312, 606, 607, 608, 609, 610, 611, 612, 613, 614, 615] (by decide +kernel) (by decide +kernel)
set_option maxRecDepth 20000 in
theorem gL_law_X1_digest : GoodIn wsL_law (wsV RL 205 RX1 yX1_digest wsX1_digest) := goodIn_app (goodIn_of _ (by decide +kernel)) ggL_law_X1_digest
theorem dL_law_0 : decode cL_law 0 = .ok (.new 8, 3) := by decide +kernel
theorem dL_law_3 : decode cL_law 3 = .ok (.dup, 1) := by decide +kernel
theorem dL_law_4 : decode cL_law 4 = .ok (.invokespecial 77, 3) := by decide +kernel
theorem dL_law_7 : decode cL_law 7 = .ok (.astore_n 1, 1) := by decide +kernel
theorem dL_law_8 : decode cL_law 8 = .ok (.new 78, 3) := by decide +kernel
theorem dL_law_11 : decode cL_law 11 = .ok (.dup, 1) := by decide +kernel
theorem dL_law_12 : decode cL_law 12 = .ok (.invokespecial 80, 3) := by decide +kernel
theorem dL_law_15 : decode cL_law 15 = .ok (.astore_n 2, 1) := by decide +kernel
theorem dL_law_16 : decode cL_law 16 = .ok (.iconst 1, 1) := by decide +kernel
theorem dL_law_17 : decode cL_law 17 = .ok (.newarray .long, 2) := by decide +kernel
theorem dL_law_19 : decode cL_law 19 = .ok (.astore_n 3, 1) := by decide +kernel
theorem dL_law_20 : decode cL_law 20 = .ok (.iconst 0, 1) := by decide +kernel
theorem dL_law_21 : decode cL_law 21 = .ok (.istore 4, 2) := by decide +kernel
theorem dL_law_23 : decode cL_law 23 = .ok (.iload 4, 2) := by decide +kernel
theorem dL_law_25 : decode cL_law 25 = .ok (.aload_n 0, 1) := by decide +kernel
theorem dL_law_26 : decode cL_law 26 = .ok (.arraylength, 1) := by decide +kernel
theorem dL_law_27 : decode cL_law 27 = .ok (.iconst 3, 1) := by decide +kernel
theorem dL_law_28 : decode cL_law 28 = .ok (.isub, 1) := by decide +kernel
theorem dL_law_29 : decode cL_law 29 = .ok (.if_icmp .gt 1520, 3) := by decide +kernel
theorem dL_law_32 : decode cL_law 32 = .ok (.aload_n 0, 1) := by decide +kernel
theorem dL_law_33 : decode cL_law 33 = .ok (.iload 4, 2) := by decide +kernel
theorem dL_law_35 : decode cL_law 35 = .ok (.iaload, 1) := by decide +kernel
theorem dL_law_36 : decode cL_law 36 = .ok (.bipush 63, 2) := by decide +kernel
theorem dL_law_38 : decode cL_law 38 = .ok (.iand, 1) := by decide +kernel
theorem dL_law_39 : decode cL_law 39 = .ok (.tableswitch 1504 0 32 #[145, 189, 245, 313, 397, 453, 466, 522, 578, 641, 704, 760, 773, 786, 842, 905, 918, 931, 987, 1043, 1099, 1155, 1168, 1181, 1244, 1257, 1270, 1283, 1296, 1352, 1365, 1449, 1490], 145) := by decide +kernel
theorem dL_law_184 : decode cL_law 184 = .ok (.aload_n 1, 1) := by decide +kernel
theorem dL_law_185 : decode cL_law 185 = .ok (.aload_n 3, 1) := by decide +kernel
theorem dL_law_186 : decode cL_law 186 = .ok (.invokestatic 81, 3) := by decide +kernel
theorem dL_law_189 : decode cL_law 189 = .ok (.istore 5, 2) := by decide +kernel
theorem dL_law_191 : decode cL_law 191 = .ok (.aload_n 2, 1) := by decide +kernel
theorem dL_law_192 : decode cL_law 192 = .ok (.invokevirtual 86, 3) := by decide +kernel
theorem dL_law_195 : decode cL_law 195 = .ok (.istore 6, 2) := by decide +kernel
theorem dL_law_197 : decode cL_law 197 = .ok (.aload_n 2, 1) := by decide +kernel
theorem dL_law_198 : decode cL_law 198 = .ok (.invokevirtual 87, 3) := by decide +kernel
theorem dL_law_201 : decode cL_law 201 = .ok (.iload 5, 2) := by decide +kernel
theorem dL_law_203 : decode cL_law 203 = .ok (.if_icmp .eq 5, 3) := by decide +kernel
theorem dL_law_206 : decode cL_law 206 = .ok (.iconst 0, 1) := by decide +kernel
theorem dL_law_207 : decode cL_law 207 = .ok (.ireturn, 1) := by decide +kernel
theorem dL_law_208 : decode cL_law 208 = .ok (.iload 5, 2) := by decide +kernel
theorem dL_law_210 : decode cL_law 210 = .ok (.ifCond .ne 15, 3) := by decide +kernel
theorem dL_law_213 : decode cL_law 213 = .ok (.aload_n 3, 1) := by decide +kernel
theorem dL_law_214 : decode cL_law 214 = .ok (.iconst 0, 1) := by decide +kernel
theorem dL_law_215 : decode cL_law 215 = .ok (.laload, 1) := by decide +kernel
theorem dL_law_216 : decode cL_law 216 = .ok (.iload 6, 2) := by decide +kernel
theorem dL_law_218 : decode cL_law 218 = .ok (.i2l, 1) := by decide +kernel
theorem dL_law_219 : decode cL_law 219 = .ok (.lcmp, 1) := by decide +kernel
theorem dL_law_220 : decode cL_law 220 = .ok (.ifCond .eq 5, 3) := by decide +kernel
theorem dL_law_223 : decode cL_law 223 = .ok (.iconst 0, 1) := by decide +kernel
theorem dL_law_224 : decode cL_law 224 = .ok (.ireturn, 1) := by decide +kernel
theorem dL_law_225 : decode cL_law 225 = .ok (.goto 1318, 3) := by decide +kernel
theorem dL_law_228 : decode cL_law 228 = .ok (.aload_n 1, 1) := by decide +kernel
theorem dL_law_229 : decode cL_law 229 = .ok (.aload_n 0, 1) := by decide +kernel
theorem dL_law_230 : decode cL_law 230 = .ok (.iload 4, 2) := by decide +kernel
theorem dL_law_232 : decode cL_law 232 = .ok (.iconst 1, 1) := by decide +kernel
theorem dL_law_233 : decode cL_law 233 = .ok (.iadd, 1) := by decide +kernel
theorem dL_law_234 : decode cL_law 234 = .ok (.iaload, 1) := by decide +kernel
theorem dL_law_235 : decode cL_law 235 = .ok (.aload_n 3, 1) := by decide +kernel
theorem dL_law_236 : decode cL_law 236 = .ok (.invokestatic 90, 3) := by decide +kernel
theorem dL_law_239 : decode cL_law 239 = .ok (.istore 5, 2) := by decide +kernel
theorem dL_law_241 : decode cL_law 241 = .ok (.aload_n 2, 1) := by decide +kernel
theorem dL_law_242 : decode cL_law 242 = .ok (.aload_n 0, 1) := by decide +kernel
theorem dL_law_243 : decode cL_law 243 = .ok (.iload 4, 2) := by decide +kernel
theorem dL_law_245 : decode cL_law 245 = .ok (.iconst 1, 1) := by decide +kernel
theorem dL_law_246 : decode cL_law 246 = .ok (.iadd, 1) := by decide +kernel
theorem dL_law_247 : decode cL_law 247 = .ok (.iaload, 1) := by decide +kernel
theorem dL_law_248 : decode cL_law 248 = .ok (.invokevirtual 93, 3) := by decide +kernel
theorem dL_law_251 : decode cL_law 251 = .ok (.istore 6, 2) := by decide +kernel
theorem dL_law_253 : decode cL_law 253 = .ok (.aload_n 2, 1) := by decide +kernel
theorem dL_law_254 : decode cL_law 254 = .ok (.invokevirtual 87, 3) := by decide +kernel
theorem dL_law_257 : decode cL_law 257 = .ok (.iload 5, 2) := by decide +kernel
theorem dL_law_259 : decode cL_law 259 = .ok (.if_icmp .eq 5, 3) := by decide +kernel
theorem dL_law_262 : decode cL_law 262 = .ok (.iconst 0, 1) := by decide +kernel
theorem dL_law_263 : decode cL_law 263 = .ok (.ireturn, 1) := by decide +kernel
theorem dL_law_264 : decode cL_law 264 = .ok (.iload 5, 2) := by decide +kernel
theorem dL_law_266 : decode cL_law 266 = .ok (.ifCond .ne 15, 3) := by decide +kernel
theorem dL_law_269 : decode cL_law 269 = .ok (.aload_n 3, 1) := by decide +kernel
theorem dL_law_270 : decode cL_law 270 = .ok (.iconst 0, 1) := by decide +kernel
theorem dL_law_271 : decode cL_law 271 = .ok (.laload, 1) := by decide +kernel
theorem dL_law_272 : decode cL_law 272 = .ok (.iload 6, 2) := by decide +kernel
theorem dL_law_274 : decode cL_law 274 = .ok (.i2l, 1) := by decide +kernel
theorem dL_law_275 : decode cL_law 275 = .ok (.lcmp, 1) := by decide +kernel
theorem dL_law_276 : decode cL_law 276 = .ok (.ifCond .eq 5, 3) := by decide +kernel
theorem dL_law_279 : decode cL_law 279 = .ok (.iconst 0, 1) := by decide +kernel
theorem dL_law_280 : decode cL_law 280 = .ok (.ireturn, 1) := by decide +kernel
theorem dL_law_281 : decode cL_law 281 = .ok (.goto 1262, 3) := by decide +kernel
theorem dL_law_284 : decode cL_law 284 = .ok (.aload_n 1, 1) := by decide +kernel
theorem dL_law_285 : decode cL_law 285 = .ok (.aload_n 0, 1) := by decide +kernel
theorem dL_law_286 : decode cL_law 286 = .ok (.iload 4, 2) := by decide +kernel
theorem dL_law_288 : decode cL_law 288 = .ok (.iconst 1, 1) := by decide +kernel
theorem dL_law_289 : decode cL_law 289 = .ok (.iadd, 1) := by decide +kernel
theorem dL_law_290 : decode cL_law 290 = .ok (.iaload, 1) := by decide +kernel
theorem dL_law_291 : decode cL_law 291 = .ok (.aload_n 0, 1) := by decide +kernel
theorem dL_law_292 : decode cL_law 292 = .ok (.iload 4, 2) := by decide +kernel
theorem dL_law_294 : decode cL_law 294 = .ok (.iconst 2, 1) := by decide +kernel
theorem dL_law_295 : decode cL_law 295 = .ok (.iadd, 1) := by decide +kernel
theorem dL_law_296 : decode cL_law 296 = .ok (.iaload, 1) := by decide +kernel
theorem dL_law_297 : decode cL_law 297 = .ok (.aload_n 3, 1) := by decide +kernel
theorem dL_law_298 : decode cL_law 298 = .ok (.invokestatic 94, 3) := by decide +kernel
theorem dL_law_301 : decode cL_law 301 = .ok (.istore 5, 2) := by decide +kernel
theorem dL_law_303 : decode cL_law 303 = .ok (.aload_n 2, 1) := by decide +kernel
theorem dL_law_304 : decode cL_law 304 = .ok (.aload_n 0, 1) := by decide +kernel
theorem dL_law_305 : decode cL_law 305 = .ok (.iload 4, 2) := by decide +kernel
theorem dL_law_307 : decode cL_law 307 = .ok (.iconst 1, 1) := by decide +kernel
theorem dL_law_308 : decode cL_law 308 = .ok (.iadd, 1) := by decide +kernel
theorem dL_law_309 : decode cL_law 309 = .ok (.iaload, 1) := by decide +kernel
theorem dL_law_310 : decode cL_law 310 = .ok (.aload_n 0, 1) := by decide +kernel
theorem dL_law_311 : decode cL_law 311 = .ok (.iload 4, 2) := by decide +kernel
theorem dL_law_313 : decode cL_law 313 = .ok (.iconst 2, 1) := by decide +kernel
theorem dL_law_314 : decode cL_law 314 = .ok (.iadd, 1) := by decide +kernel
theorem dL_law_315 : decode cL_law 315 = .ok (.iaload, 1) := by decide +kernel
theorem dL_law_316 : decode cL_law 316 = .ok (.invokevirtual 97, 3) := by decide +kernel
theorem dL_law_319 : decode cL_law 319 = .ok (.istore 6, 2) := by decide +kernel
theorem dL_law_321 : decode cL_law 321 = .ok (.aload_n 2, 1) := by decide +kernel
theorem dL_law_322 : decode cL_law 322 = .ok (.invokevirtual 87, 3) := by decide +kernel
theorem dL_law_325 : decode cL_law 325 = .ok (.iload 5, 2) := by decide +kernel
theorem dL_law_327 : decode cL_law 327 = .ok (.if_icmp .eq 5, 3) := by decide +kernel
theorem dL_law_330 : decode cL_law 330 = .ok (.iconst 0, 1) := by decide +kernel
theorem dL_law_331 : decode cL_law 331 = .ok (.ireturn, 1) := by decide +kernel
theorem dL_law_332 : decode cL_law 332 = .ok (.iload 5, 2) := by decide +kernel
theorem dL_law_334 : decode cL_law 334 = .ok (.ifCond .ne 15, 3) := by decide +kernel
theorem dL_law_337 : decode cL_law 337 = .ok (.aload_n 3, 1) := by decide +kernel
theorem dL_law_338 : decode cL_law 338 = .ok (.iconst 0, 1) := by decide +kernel
theorem dL_law_339 : decode cL_law 339 = .ok (.laload, 1) := by decide +kernel
theorem dL_law_340 : decode cL_law 340 = .ok (.iload 6, 2) := by decide +kernel
theorem dL_law_342 : decode cL_law 342 = .ok (.i2l, 1) := by decide +kernel
theorem dL_law_343 : decode cL_law 343 = .ok (.lcmp, 1) := by decide +kernel
theorem dL_law_344 : decode cL_law 344 = .ok (.ifCond .eq 5, 3) := by decide +kernel
theorem dL_law_347 : decode cL_law 347 = .ok (.iconst 0, 1) := by decide +kernel
theorem dL_law_348 : decode cL_law 348 = .ok (.ireturn, 1) := by decide +kernel
theorem dL_law_349 : decode cL_law 349 = .ok (.goto 1194, 3) := by decide +kernel
theorem dL_law_352 : decode cL_law 352 = .ok (.aload_n 1, 1) := by decide +kernel
theorem dL_law_353 : decode cL_law 353 = .ok (.aload_n 0, 1) := by decide +kernel
theorem dL_law_354 : decode cL_law 354 = .ok (.iload 4, 2) := by decide +kernel
theorem dL_law_356 : decode cL_law 356 = .ok (.iconst 1, 1) := by decide +kernel
theorem dL_law_357 : decode cL_law 357 = .ok (.iadd, 1) := by decide +kernel
theorem dL_law_358 : decode cL_law 358 = .ok (.iaload, 1) := by decide +kernel
theorem dL_law_359 : decode cL_law 359 = .ok (.aload_n 0, 1) := by decide +kernel
theorem dL_law_360 : decode cL_law 360 = .ok (.iload 4, 2) := by decide +kernel
theorem dL_law_362 : decode cL_law 362 = .ok (.iconst 2, 1) := by decide +kernel
theorem dL_law_363 : decode cL_law 363 = .ok (.iadd, 1) := by decide +kernel
theorem dL_law_364 : decode cL_law 364 = .ok (.iaload, 1) := by decide +kernel
theorem dL_law_365 : decode cL_law 365 = .ok (.ifCond .eq 7, 3) := by decide +kernel
theorem dL_law_368 : decode cL_law 368 = .ok (.iconst 1, 1) := by decide +kernel
theorem dL_law_369 : decode cL_law 369 = .ok (.goto 4, 3) := by decide +kernel
theorem dL_law_372 : decode cL_law 372 = .ok (.iconst 0, 1) := by decide +kernel
theorem dL_law_373 : decode cL_law 373 = .ok (.aload_n 3, 1) := by decide +kernel
theorem dL_law_374 : decode cL_law 374 = .ok (.invokestatic 98, 3) := by decide +kernel
theorem dL_law_377 : decode cL_law 377 = .ok (.istore 5, 2) := by decide +kernel
theorem dL_law_379 : decode cL_law 379 = .ok (.aload_n 2, 1) := by decide +kernel
theorem dL_law_380 : decode cL_law 380 = .ok (.aload_n 0, 1) := by decide +kernel
theorem dL_law_381 : decode cL_law 381 = .ok (.iload 4, 2) := by decide +kernel
theorem dL_law_383 : decode cL_law 383 = .ok (.iconst 1, 1) := by decide +kernel
theorem dL_law_384 : decode cL_law 384 = .ok (.iadd, 1) := by decide +kernel
theorem dL_law_385 : decode cL_law 385 = .ok (.iaload, 1) := by decide +kernel
theorem dL_law_386 : decode cL_law 386 = .ok (.aload_n 0, 1) := by decide +kernel
theorem dL_law_387 : decode cL_law 387 = .ok (.iload 4, 2) := by decide +kernel
theorem dL_law_389 : decode cL_law 389 = .ok (.iconst 2, 1) := by decide +kernel
theorem dL_law_390 : decode cL_law 390 = .ok (.iadd, 1) := by decide +kernel
theorem dL_law_391 : decode cL_law 391 = .ok (.iaload, 1) := by decide +kernel
theorem dL_law_392 : decode cL_law 392 = .ok (.ifCond .eq 7, 3) := by decide +kernel
theorem dL_law_395 : decode cL_law 395 = .ok (.iconst 1, 1) := by decide +kernel
theorem dL_law_396 : decode cL_law 396 = .ok (.goto 4, 3) := by decide +kernel
theorem dL_law_399 : decode cL_law 399 = .ok (.iconst 0, 1) := by decide +kernel
theorem dL_law_400 : decode cL_law 400 = .ok (.invokevirtual 101, 3) := by decide +kernel
theorem dL_law_403 : decode cL_law 403 = .ok (.istore 6, 2) := by decide +kernel
theorem dL_law_405 : decode cL_law 405 = .ok (.aload_n 2, 1) := by decide +kernel
theorem dL_law_406 : decode cL_law 406 = .ok (.invokevirtual 87, 3) := by decide +kernel
theorem dL_law_409 : decode cL_law 409 = .ok (.iload 5, 2) := by decide +kernel
theorem dL_law_411 : decode cL_law 411 = .ok (.if_icmp .eq 5, 3) := by decide +kernel
theorem dL_law_414 : decode cL_law 414 = .ok (.iconst 0, 1) := by decide +kernel
theorem dL_law_415 : decode cL_law 415 = .ok (.ireturn, 1) := by decide +kernel
theorem dL_law_416 : decode cL_law 416 = .ok (.iload 5, 2) := by decide +kernel
theorem dL_law_418 : decode cL_law 418 = .ok (.ifCond .ne 15, 3) := by decide +kernel
theorem dL_law_421 : decode cL_law 421 = .ok (.aload_n 3, 1) := by decide +kernel
theorem dL_law_422 : decode cL_law 422 = .ok (.iconst 0, 1) := by decide +kernel
theorem dL_law_423 : decode cL_law 423 = .ok (.laload, 1) := by decide +kernel
theorem dL_law_424 : decode cL_law 424 = .ok (.iload 6, 2) := by decide +kernel
theorem dL_law_426 : decode cL_law 426 = .ok (.i2l, 1) := by decide +kernel
theorem dL_law_427 : decode cL_law 427 = .ok (.lcmp, 1) := by decide +kernel
theorem dL_law_428 : decode cL_law 428 = .ok (.ifCond .eq 5, 3) := by decide +kernel
theorem dL_law_431 : decode cL_law 431 = .ok (.iconst 0, 1) := by decide +kernel
theorem dL_law_432 : decode cL_law 432 = .ok (.ireturn, 1) := by decide +kernel
theorem dL_law_433 : decode cL_law 433 = .ok (.goto 1110, 3) := by decide +kernel
theorem dL_law_436 : decode cL_law 436 = .ok (.aload_n 1, 1) := by decide +kernel
theorem dL_law_437 : decode cL_law 437 = .ok (.aload_n 0, 1) := by decide +kernel
theorem dL_law_438 : decode cL_law 438 = .ok (.iload 4, 2) := by decide +kernel
theorem dL_law_440 : decode cL_law 440 = .ok (.iconst 1, 1) := by decide +kernel
theorem dL_law_441 : decode cL_law 441 = .ok (.iadd, 1) := by decide +kernel
theorem dL_law_442 : decode cL_law 442 = .ok (.iaload, 1) := by decide +kernel
theorem dL_law_443 : decode cL_law 443 = .ok (.aload_n 3, 1) := by decide +kernel
theorem dL_law_444 : decode cL_law 444 = .ok (.invokestatic 102, 3) := by decide +kernel
theorem dL_law_447 : decode cL_law 447 = .ok (.istore 5, 2) := by decide +kernel
theorem dL_law_449 : decode cL_law 449 = .ok (.aload_n 2, 1) := by decide +kernel
theorem dL_law_450 : decode cL_law 450 = .ok (.aload_n 0, 1) := by decide +kernel
theorem dL_law_451 : decode cL_law 451 = .ok (.iload 4, 2) := by decide +kernel
theorem dL_law_453 : decode cL_law 453 = .ok (.iconst 1, 1) := by decide +kernel
theorem dL_law_454 : decode cL_law 454 = .ok (.iadd, 1) := by decide +kernel
theorem dL_law_455 : decode cL_law 455 = .ok (.iaload, 1) := by decide +kernel
theorem dL_law_456 : decode cL_law 456 = .ok (.invokevirtual 104, 3) := by decide +kernel
theorem dL_law_459 : decode cL_law 459 = .ok (.istore 6, 2) := by decide +kernel
theorem dL_law_461 : decode cL_law 461 = .ok (.aload_n 2, 1) := by decide +kernel
theorem dL_law_462 : decode cL_law 462 = .ok (.invokevirtual 87, 3) := by decide +kernel
theorem dL_law_465 : decode cL_law 465 = .ok (.iload 5, 2) := by decide +kernel
theorem dL_law_467 : decode cL_law 467 = .ok (.if_icmp .eq 5, 3) := by decide +kernel
theorem dL_law_470 : decode cL_law 470 = .ok (.iconst 0, 1) := by decide +kernel
theorem dL_law_471 : decode cL_law 471 = .ok (.ireturn, 1) := by decide +kernel
theorem dL_law_472 : decode cL_law 472 = .ok (.iload 5, 2) := by decide +kernel
theorem dL_law_474 : decode cL_law 474 = .ok (.ifCond .ne 15, 3) := by decide +kernel
theorem dL_law_477 : decode cL_law 477 = .ok (.aload_n 3, 1) := by decide +kernel
theorem dL_law_478 : decode cL_law 478 = .ok (.iconst 0, 1) := by decide +kernel
theorem dL_law_479 : decode cL_law 479 = .ok (.laload, 1) := by decide +kernel
theorem dL_law_480 : decode cL_law 480 = .ok (.iload 6, 2) := by decide +kernel
theorem dL_law_482 : decode cL_law 482 = .ok (.i2l, 1) := by decide +kernel
theorem dL_law_483 : decode cL_law 483 = .ok (.lcmp, 1) := by decide +kernel
theorem dL_law_484 : decode cL_law 484 = .ok (.ifCond .eq 5, 3) := by decide +kernel
theorem dL_law_487 : decode cL_law 487 = .ok (.iconst 0, 1) := by decide +kernel
theorem dL_law_488 : decode cL_law 488 = .ok (.ireturn, 1) := by decide +kernel
theorem dL_law_489 : decode cL_law 489 = .ok (.goto 1054, 3) := by decide +kernel
theorem dL_law_492 : decode cL_law 492 = .ok (.aload_n 1, 1) := by decide +kernel
theorem dL_law_493 : decode cL_law 493 = .ok (.invokevirtual 105, 3) := by decide +kernel
theorem dL_law_496 : decode cL_law 496 = .ok (.aload_n 2, 1) := by decide +kernel
theorem dL_law_497 : decode cL_law 497 = .ok (.invokevirtual 108, 3) := by decide +kernel
theorem dL_law_500 : decode cL_law 500 = .ok (.if_icmp .eq 1043, 3) := by decide +kernel
theorem dL_law_503 : decode cL_law 503 = .ok (.iconst 0, 1) := by decide +kernel
theorem dL_law_504 : decode cL_law 504 = .ok (.ireturn, 1) := by decide +kernel
theorem dL_law_505 : decode cL_law 505 = .ok (.aload_n 1, 1) := by decide +kernel
theorem dL_law_506 : decode cL_law 506 = .ok (.aload_n 0, 1) := by decide +kernel
theorem dL_law_507 : decode cL_law 507 = .ok (.iload 4, 2) := by decide +kernel
theorem dL_law_509 : decode cL_law 509 = .ok (.iconst 1, 1) := by decide +kernel
theorem dL_law_510 : decode cL_law 510 = .ok (.iadd, 1) := by decide +kernel
theorem dL_law_511 : decode cL_law 511 = .ok (.iaload, 1) := by decide +kernel
theorem dL_law_512 : decode cL_law 512 = .ok (.aload_n 3, 1) := by decide +kernel
theorem dL_law_513 : decode cL_law 513 = .ok (.invokestatic 109, 3) := by decide +kernel
theorem dL_law_516 : decode cL_law 516 = .ok (.istore 5, 2) := by decide +kernel
theorem dL_law_518 : decode cL_law 518 = .ok (.aload_n 2, 1) := by decide +kernel
theorem dL_law_519 : decode cL_law 519 = .ok (.aload_n 0, 1) := by decide +kernel
theorem dL_law_520 : decode cL_law 520 = .ok (.iload 4, 2) := by decide +kernel
theorem dL_law_522 : decode cL_law 522 = .ok (.iconst 1, 1) := by decide +kernel
theorem dL_law_523 : decode cL_law 523 = .ok (.iadd, 1) := by decide +kernel
theorem dL_law_524 : decode cL_law 524 = .ok (.iaload, 1) := by decide +kernel
theorem dL_law_525 : decode cL_law 525 = .ok (.invokevirtual 111, 3) := by decide +kernel
theorem dL_law_528 : decode cL_law 528 = .ok (.istore 6, 2) := by decide +kernel
theorem dL_law_530 : decode cL_law 530 = .ok (.aload_n 2, 1) := by decide +kernel
theorem dL_law_531 : decode cL_law 531 = .ok (.invokevirtual 87, 3) := by decide +kernel
theorem dL_law_534 : decode cL_law 534 = .ok (.iload 5, 2) := by decide +kernel
theorem dL_law_536 : decode cL_law 536 = .ok (.if_icmp .eq 5, 3) := by decide +kernel
theorem dL_law_539 : decode cL_law 539 = .ok (.iconst 0, 1) := by decide +kernel
theorem dL_law_540 : decode cL_law 540 = .ok (.ireturn, 1) := by decide +kernel
theorem dL_law_541 : decode cL_law 541 = .ok (.iload 5, 2) := by decide +kernel
theorem dL_law_543 : decode cL_law 543 = .ok (.ifCond .ne 15, 3) := by decide +kernel
theorem dL_law_546 : decode cL_law 546 = .ok (.aload_n 3, 1) := by decide +kernel
theorem dL_law_547 : decode cL_law 547 = .ok (.iconst 0, 1) := by decide +kernel
theorem dL_law_548 : decode cL_law 548 = .ok (.laload, 1) := by decide +kernel
theorem dL_law_549 : decode cL_law 549 = .ok (.iload 6, 2) := by decide +kernel
theorem dL_law_551 : decode cL_law 551 = .ok (.i2l, 1) := by decide +kernel
theorem dL_law_552 : decode cL_law 552 = .ok (.lcmp, 1) := by decide +kernel
theorem dL_law_553 : decode cL_law 553 = .ok (.ifCond .eq 5, 3) := by decide +kernel
theorem dL_law_556 : decode cL_law 556 = .ok (.iconst 0, 1) := by decide +kernel
theorem dL_law_557 : decode cL_law 557 = .ok (.ireturn, 1) := by decide +kernel
theorem dL_law_558 : decode cL_law 558 = .ok (.goto 985, 3) := by decide +kernel
theorem dL_law_561 : decode cL_law 561 = .ok (.aload_n 1, 1) := by decide +kernel
theorem dL_law_562 : decode cL_law 562 = .ok (.aload_n 0, 1) := by decide +kernel
theorem dL_law_563 : decode cL_law 563 = .ok (.iload 4, 2) := by decide +kernel
theorem dL_law_565 : decode cL_law 565 = .ok (.iconst 1, 1) := by decide +kernel
theorem dL_law_566 : decode cL_law 566 = .ok (.iadd, 1) := by decide +kernel
theorem dL_law_567 : decode cL_law 567 = .ok (.iaload, 1) := by decide +kernel
theorem dL_law_568 : decode cL_law 568 = .ok (.aload_n 3, 1) := by decide +kernel
theorem dL_law_569 : decode cL_law 569 = .ok (.invokestatic 112, 3) := by decide +kernel
theorem dL_law_572 : decode cL_law 572 = .ok (.istore 5, 2) := by decide +kernel
theorem dL_law_574 : decode cL_law 574 = .ok (.aload_n 2, 1) := by decide +kernel
theorem dL_law_575 : decode cL_law 575 = .ok (.aload_n 0, 1) := by decide +kernel
theorem dL_law_576 : decode cL_law 576 = .ok (.iload 4, 2) := by decide +kernel
theorem dL_law_578 : decode cL_law 578 = .ok (.iconst 1, 1) := by decide +kernel
theorem dL_law_579 : decode cL_law 579 = .ok (.iadd, 1) := by decide +kernel
theorem dL_law_580 : decode cL_law 580 = .ok (.iaload, 1) := by decide +kernel
theorem dL_law_581 : decode cL_law 581 = .ok (.invokevirtual 114, 3) := by decide +kernel
theorem dL_law_584 : decode cL_law 584 = .ok (.istore 6, 2) := by decide +kernel
theorem dL_law_586 : decode cL_law 586 = .ok (.aload_n 2, 1) := by decide +kernel
theorem dL_law_587 : decode cL_law 587 = .ok (.invokevirtual 87, 3) := by decide +kernel
theorem dL_law_590 : decode cL_law 590 = .ok (.iload 5, 2) := by decide +kernel
theorem dL_law_592 : decode cL_law 592 = .ok (.if_icmp .eq 5, 3) := by decide +kernel
theorem dL_law_595 : decode cL_law 595 = .ok (.iconst 0, 1) := by decide +kernel
theorem dL_law_596 : decode cL_law 596 = .ok (.ireturn, 1) := by decide +kernel
theorem dL_law_597 : decode cL_law 597 = .ok (.iload 5, 2) := by decide +kernel
theorem dL_law_599 : decode cL_law 599 = .ok (.ifCond .ne 15, 3) := by decide +kernel
theorem dL_law_602 : decode cL_law 602 = .ok (.aload_n 3, 1) := by decide +kernel
theorem dL_law_603 : decode cL_law 603 = .ok (.iconst 0, 1) := by decide +kernel
theorem dL_law_604 : decode cL_law 604 = .ok (.laload, 1) := by decide +kernel
theorem dL_law_605 : decode cL_law 605 = .ok (.iload 6, 2) := by decide +kernel
theorem dL_law_607 : decode cL_law 607 = .ok (.i2l, 1) := by decide +kernel
theorem dL_law_608 : decode cL_law 608 = .ok (.lcmp, 1) := by decide +kernel
theorem dL_law_609 : decode cL_law 609 = .ok (.ifCond .eq 5, 3) := by decide +kernel
theorem dL_law_612 : decode cL_law 612 = .ok (.iconst 0, 1) := by decide +kernel
theorem dL_law_613 : decode cL_law 613 = .ok (.ireturn, 1) := by decide +kernel
theorem dL_law_614 : decode cL_law 614 = .ok (.goto 929, 3) := by decide +kernel
theorem dL_law_617 : decode cL_law 617 = .ok (.aload_n 1, 1) := by decide +kernel
theorem dL_law_618 : decode cL_law 618 = .ok (.aload_n 0, 1) := by decide +kernel
theorem dL_law_619 : decode cL_law 619 = .ok (.iload 4, 2) := by decide +kernel
theorem dL_law_621 : decode cL_law 621 = .ok (.iconst 1, 1) := by decide +kernel
theorem dL_law_622 : decode cL_law 622 = .ok (.iadd, 1) := by decide +kernel
theorem dL_law_623 : decode cL_law 623 = .ok (.iaload, 1) := by decide +kernel
theorem dL_law_624 : decode cL_law 624 = .ok (.aload_n 3, 1) := by decide +kernel
theorem dL_law_625 : decode cL_law 625 = .ok (.invokestatic 115, 3) := by decide +kernel
theorem dL_law_628 : decode cL_law 628 = .ok (.istore 5, 2) := by decide +kernel
theorem dL_law_630 : decode cL_law 630 = .ok (.aload_n 2, 1) := by decide +kernel
theorem dL_law_631 : decode cL_law 631 = .ok (.aload_n 0, 1) := by decide +kernel
theorem dL_law_632 : decode cL_law 632 = .ok (.iload 4, 2) := by decide +kernel
theorem dL_law_634 : decode cL_law 634 = .ok (.iconst 1, 1) := by decide +kernel
theorem dL_law_635 : decode cL_law 635 = .ok (.iadd, 1) := by decide +kernel
theorem dL_law_636 : decode cL_law 636 = .ok (.iaload, 1) := by decide +kernel
theorem dL_law_637 : decode cL_law 637 = .ok (.invokevirtual 117, 3) := by decide +kernel
theorem dL_law_640 : decode cL_law 640 = .ok (.istore 6, 2) := by decide +kernel
theorem dL_law_642 : decode cL_law 642 = .ok (.aload_n 2, 1) := by decide +kernel
theorem dL_law_643 : decode cL_law 643 = .ok (.invokevirtual 87, 3) := by decide +kernel
theorem dL_law_646 : decode cL_law 646 = .ok (.iload 5, 2) := by decide +kernel
theorem dL_law_648 : decode cL_law 648 = .ok (.if_icmp .eq 5, 3) := by decide +kernel
theorem dL_law_651 : decode cL_law 651 = .ok (.iconst 0, 1) := by decide +kernel
theorem dL_law_652 : decode cL_law 652 = .ok (.ireturn, 1) := by decide +kernel
theorem dL_law_653 : decode cL_law 653 = .ok (.iload 5, 2) := by decide +kernel
theorem dL_law_655 : decode cL_law 655 = .ok (.ifCond .ne 22, 3) := by decide +kernel
theorem dL_law_658 : decode cL_law 658 = .ok (.aload_n 3, 1) := by decide +kernel
theorem dL_law_659 : decode cL_law 659 = .ok (.iconst 0, 1) := by decide +kernel
theorem dL_law_660 : decode cL_law 660 = .ok (.laload, 1) := by decide +kernel
theorem dL_law_661 : decode cL_law 661 = .ok (.iload 6, 2) := by decide +kernel
theorem dL_law_663 : decode cL_law 663 = .ok (.ifCond .eq 7, 3) := by decide +kernel
theorem dL_law_666 : decode cL_law 666 = .ok (.lconst 1, 1) := by decide +kernel
theorem dL_law_667 : decode cL_law 667 = .ok (.goto 4, 3) := by decide +kernel
theorem dL_law_670 : decode cL_law 670 = .ok (.lconst 0, 1) := by decide +kernel
theorem dL_law_671 : decode cL_law 671 = .ok (.lcmp, 1) := by decide +kernel
theorem dL_law_672 : decode cL_law 672 = .ok (.ifCond .eq 5, 3) := by decide +kernel
theorem dL_law_675 : decode cL_law 675 = .ok (.iconst 0, 1) := by decide +kernel
theorem dL_law_676 : decode cL_law 676 = .ok (.ireturn, 1) := by decide +kernel
theorem dL_law_677 : decode cL_law 677 = .ok (.goto 866, 3) := by decide +kernel
theorem dL_law_680 : decode cL_law 680 = .ok (.aload_n 1, 1) := by decide +kernel
theorem dL_law_681 : decode cL_law 681 = .ok (.aload_n 0, 1) := by decide +kernel
theorem dL_law_682 : decode cL_law 682 = .ok (.iload 4, 2) := by decide +kernel
theorem dL_law_684 : decode cL_law 684 = .ok (.iconst 1, 1) := by decide +kernel
theorem dL_law_685 : decode cL_law 685 = .ok (.iadd, 1) := by decide +kernel
theorem dL_law_686 : decode cL_law 686 = .ok (.iaload, 1) := by decide +kernel
theorem dL_law_687 : decode cL_law 687 = .ok (.aload_n 3, 1) := by decide +kernel
theorem dL_law_688 : decode cL_law 688 = .ok (.invokestatic 118, 3) := by decide +kernel
theorem dL_law_691 : decode cL_law 691 = .ok (.istore 5, 2) := by decide +kernel
theorem dL_law_693 : decode cL_law 693 = .ok (.aload_n 2, 1) := by decide +kernel
theorem dL_law_694 : decode cL_law 694 = .ok (.aload_n 0, 1) := by decide +kernel
theorem dL_law_695 : decode cL_law 695 = .ok (.iload 4, 2) := by decide +kernel
theorem dL_law_697 : decode cL_law 697 = .ok (.iconst 1, 1) := by decide +kernel
theorem dL_law_698 : decode cL_law 698 = .ok (.iadd, 1) := by decide +kernel
theorem dL_law_699 : decode cL_law 699 = .ok (.iaload, 1) := by decide +kernel
theorem dL_law_700 : decode cL_law 700 = .ok (.invokevirtual 120, 3) := by decide +kernel
theorem dL_law_703 : decode cL_law 703 = .ok (.istore 6, 2) := by decide +kernel
theorem dL_law_705 : decode cL_law 705 = .ok (.aload_n 2, 1) := by decide +kernel
theorem dL_law_706 : decode cL_law 706 = .ok (.invokevirtual 87, 3) := by decide +kernel
theorem dL_law_709 : decode cL_law 709 = .ok (.iload 5, 2) := by decide +kernel
theorem dL_law_711 : decode cL_law 711 = .ok (.if_icmp .eq 5, 3) := by decide +kernel
theorem dL_law_714 : decode cL_law 714 = .ok (.iconst 0, 1) := by decide +kernel
theorem dL_law_715 : decode cL_law 715 = .ok (.ireturn, 1) := by decide +kernel
theorem dL_law_716 : decode cL_law 716 = .ok (.iload 5, 2) := by decide +kernel
theorem dL_law_718 : decode cL_law 718 = .ok (.ifCond .ne 22, 3) := by decide +kernel
theorem dL_law_721 : decode cL_law 721 = .ok (.aload_n 3, 1) := by decide +kernel
theorem dL_law_722 : decode cL_law 722 = .ok (.iconst 0, 1) := by decide +kernel
theorem dL_law_723 : decode cL_law 723 = .ok (.laload, 1) := by decide +kernel
theorem dL_law_724 : decode cL_law 724 = .ok (.iload 6, 2) := by decide +kernel
theorem dL_law_726 : decode cL_law 726 = .ok (.ifCond .eq 7, 3) := by decide +kernel
theorem dL_law_729 : decode cL_law 729 = .ok (.lconst 1, 1) := by decide +kernel
theorem dL_law_730 : decode cL_law 730 = .ok (.goto 4, 3) := by decide +kernel
theorem dL_law_733 : decode cL_law 733 = .ok (.lconst 0, 1) := by decide +kernel
theorem dL_law_734 : decode cL_law 734 = .ok (.lcmp, 1) := by decide +kernel
theorem dL_law_735 : decode cL_law 735 = .ok (.ifCond .eq 5, 3) := by decide +kernel
theorem dL_law_738 : decode cL_law 738 = .ok (.iconst 0, 1) := by decide +kernel
theorem dL_law_739 : decode cL_law 739 = .ok (.ireturn, 1) := by decide +kernel
theorem dL_law_740 : decode cL_law 740 = .ok (.goto 803, 3) := by decide +kernel
theorem dL_law_743 : decode cL_law 743 = .ok (.aload_n 1, 1) := by decide +kernel
theorem dL_law_744 : decode cL_law 744 = .ok (.aload_n 0, 1) := by decide +kernel
theorem dL_law_745 : decode cL_law 745 = .ok (.iload 4, 2) := by decide +kernel
theorem dL_law_747 : decode cL_law 747 = .ok (.iconst 1, 1) := by decide +kernel
theorem dL_law_748 : decode cL_law 748 = .ok (.iadd, 1) := by decide +kernel
theorem dL_law_749 : decode cL_law 749 = .ok (.iaload, 1) := by decide +kernel
theorem dL_law_750 : decode cL_law 750 = .ok (.aload_n 3, 1) := by decide +kernel
theorem dL_law_751 : decode cL_law 751 = .ok (.invokestatic 121, 3) := by decide +kernel
theorem dL_law_754 : decode cL_law 754 = .ok (.istore 5, 2) := by decide +kernel
theorem dL_law_756 : decode cL_law 756 = .ok (.aload_n 2, 1) := by decide +kernel
theorem dL_law_757 : decode cL_law 757 = .ok (.aload_n 0, 1) := by decide +kernel
theorem dL_law_758 : decode cL_law 758 = .ok (.iload 4, 2) := by decide +kernel
theorem dL_law_760 : decode cL_law 760 = .ok (.iconst 1, 1) := by decide +kernel
theorem dL_law_761 : decode cL_law 761 = .ok (.iadd, 1) := by decide +kernel
theorem dL_law_762 : decode cL_law 762 = .ok (.iaload, 1) := by decide +kernel
theorem dL_law_763 : decode cL_law 763 = .ok (.invokevirtual 123, 3) := by decide +kernel
theorem dL_law_766 : decode cL_law 766 = .ok (.istore 6, 2) := by decide +kernel
theorem dL_law_768 : decode cL_law 768 = .ok (.aload_n 2, 1) := by decide +kernel
theorem dL_law_769 : decode cL_law 769 = .ok (.invokevirtual 87, 3) := by decide +kernel
theorem dL_law_772 : decode cL_law 772 = .ok (.iload 5, 2) := by decide +kernel
theorem dL_law_774 : decode cL_law 774 = .ok (.if_icmp .eq 5, 3) := by decide +kernel
theorem dL_law_777 : decode cL_law 777 = .ok (.iconst 0, 1) := by decide +kernel
theorem dL_law_778 : decode cL_law 778 = .ok (.ireturn, 1) := by decide +kernel
theorem dL_law_779 : decode cL_law 779 = .ok (.iload 5, 2) := by decide +kernel
theorem dL_law_781 : decode cL_law 781 = .ok (.ifCond .ne 15, 3) := by decide +kernel
theorem dL_law_784 : decode cL_law 784 = .ok (.aload_n 3, 1) := by decide +kernel
theorem dL_law_785 : decode cL_law 785 = .ok (.iconst 0, 1) := by decide +kernel
theorem dL_law_786 : decode cL_law 786 = .ok (.laload, 1) := by decide +kernel
theorem dL_law_787 : decode cL_law 787 = .ok (.iload 6, 2) := by decide +kernel
theorem dL_law_789 : decode cL_law 789 = .ok (.i2l, 1) := by decide +kernel
theorem dL_law_790 : decode cL_law 790 = .ok (.lcmp, 1) := by decide +kernel
theorem dL_law_791 : decode cL_law 791 = .ok (.ifCond .eq 5, 3) := by decide +kernel
theorem dL_law_794 : decode cL_law 794 = .ok (.iconst 0, 1) := by decide +kernel
theorem dL_law_795 : decode cL_law 795 = .ok (.ireturn, 1) := by decide +kernel
theorem dL_law_796 : decode cL_law 796 = .ok (.goto 747, 3) := by decide +kernel
theorem dL_law_799 : decode cL_law 799 = .ok (.aload_n 1, 1) := by decide +kernel
theorem dL_law_800 : decode cL_law 800 = .ok (.invokevirtual 124, 3) := by decide +kernel
theorem dL_law_803 : decode cL_law 803 = .ok (.aload_n 2, 1) := by decide +kernel
theorem dL_law_804 : decode cL_law 804 = .ok (.invokevirtual 127, 3) := by decide +kernel
theorem dL_law_807 : decode cL_law 807 = .ok (.if_icmp .eq 736, 3) := by decide +kernel
theorem dL_law_810 : decode cL_law 810 = .ok (.iconst 0, 1) := by decide +kernel
theorem dL_law_811 : decode cL_law 811 = .ok (.ireturn, 1) := by decide +kernel
theorem dL_law_812 : decode cL_law 812 = .ok (.aload_n 1, 1) := by decide +kernel
theorem dL_law_813 : decode cL_law 813 = .ok (.invokevirtual 128, 3) := by decide +kernel
theorem dL_law_816 : decode cL_law 816 = .ok (.aload_n 2, 1) := by decide +kernel
theorem dL_law_817 : decode cL_law 817 = .ok (.invokevirtual 131, 3) := by decide +kernel
theorem dL_law_820 : decode cL_law 820 = .ok (.if_icmp .eq 723, 3) := by decide +kernel
theorem dL_law_823 : decode cL_law 823 = .ok (.iconst 0, 1) := by decide +kernel
theorem dL_law_824 : decode cL_law 824 = .ok (.ireturn, 1) := by decide +kernel
theorem dL_law_825 : decode cL_law 825 = .ok (.aload_n 1, 1) := by decide +kernel
theorem dL_law_826 : decode cL_law 826 = .ok (.aload_n 0, 1) := by decide +kernel
theorem dL_law_827 : decode cL_law 827 = .ok (.iload 4, 2) := by decide +kernel
theorem dL_law_829 : decode cL_law 829 = .ok (.iconst 1, 1) := by decide +kernel
theorem dL_law_830 : decode cL_law 830 = .ok (.iadd, 1) := by decide +kernel
theorem dL_law_831 : decode cL_law 831 = .ok (.iaload, 1) := by decide +kernel
theorem dL_law_832 : decode cL_law 832 = .ok (.aload_n 3, 1) := by decide +kernel
theorem dL_law_833 : decode cL_law 833 = .ok (.invokestatic 132, 3) := by decide +kernel
theorem dL_law_836 : decode cL_law 836 = .ok (.istore 5, 2) := by decide +kernel
theorem dL_law_838 : decode cL_law 838 = .ok (.aload_n 2, 1) := by decide +kernel
theorem dL_law_839 : decode cL_law 839 = .ok (.aload_n 0, 1) := by decide +kernel
theorem dL_law_840 : decode cL_law 840 = .ok (.iload 4, 2) := by decide +kernel
theorem dL_law_842 : decode cL_law 842 = .ok (.iconst 1, 1) := by decide +kernel
theorem dL_law_843 : decode cL_law 843 = .ok (.iadd, 1) := by decide +kernel
theorem dL_law_844 : decode cL_law 844 = .ok (.iaload, 1) := by decide +kernel
theorem dL_law_845 : decode cL_law 845 = .ok (.invokevirtual 134, 3) := by decide +kernel
theorem dL_law_848 : decode cL_law 848 = .ok (.istore 6, 2) := by decide +kernel
theorem dL_law_850 : decode cL_law 850 = .ok (.aload_n 2, 1) := by decide +kernel
theorem dL_law_851 : decode cL_law 851 = .ok (.invokevirtual 87, 3) := by decide +kernel
theorem dL_law_854 : decode cL_law 854 = .ok (.iload 5, 2) := by decide +kernel
theorem dL_law_856 : decode cL_law 856 = .ok (.if_icmp .eq 5, 3) := by decide +kernel
theorem dL_law_859 : decode cL_law 859 = .ok (.iconst 0, 1) := by decide +kernel
theorem dL_law_860 : decode cL_law 860 = .ok (.ireturn, 1) := by decide +kernel
theorem dL_law_861 : decode cL_law 861 = .ok (.iload 5, 2) := by decide +kernel
theorem dL_law_863 : decode cL_law 863 = .ok (.ifCond .ne 15, 3) := by decide +kernel
theorem dL_law_866 : decode cL_law 866 = .ok (.aload_n 3, 1) := by decide +kernel
theorem dL_law_867 : decode cL_law 867 = .ok (.iconst 0, 1) := by decide +kernel
theorem dL_law_868 : decode cL_law 868 = .ok (.laload, 1) := by decide +kernel
theorem dL_law_869 : decode cL_law 869 = .ok (.iload 6, 2) := by decide +kernel
theorem dL_law_871 : decode cL_law 871 = .ok (.i2l, 1) := by decide +kernel
theorem dL_law_872 : decode cL_law 872 = .ok (.lcmp, 1) := by decide +kernel
theorem dL_law_873 : decode cL_law 873 = .ok (.ifCond .eq 5, 3) := by decide +kernel
theorem dL_law_876 : decode cL_law 876 = .ok (.iconst 0, 1) := by decide +kernel
theorem dL_law_877 : decode cL_law 877 = .ok (.ireturn, 1) := by decide +kernel
theorem dL_law_878 : decode cL_law 878 = .ok (.goto 665, 3) := by decide +kernel
theorem dL_law_881 : decode cL_law 881 = .ok (.aload_n 1, 1) := by decide +kernel
theorem dL_law_882 : decode cL_law 882 = .ok (.aload_n 0, 1) := by decide +kernel
theorem dL_law_883 : decode cL_law 883 = .ok (.iload 4, 2) := by decide +kernel
theorem dL_law_885 : decode cL_law 885 = .ok (.iconst 1, 1) := by decide +kernel
theorem dL_law_886 : decode cL_law 886 = .ok (.iadd, 1) := by decide +kernel
theorem dL_law_887 : decode cL_law 887 = .ok (.iaload, 1) := by decide +kernel
theorem dL_law_888 : decode cL_law 888 = .ok (.aload_n 3, 1) := by decide +kernel
theorem dL_law_889 : decode cL_law 889 = .ok (.invokestatic 135, 3) := by decide +kernel
theorem dL_law_892 : decode cL_law 892 = .ok (.istore 5, 2) := by decide +kernel
theorem dL_law_894 : decode cL_law 894 = .ok (.aload_n 2, 1) := by decide +kernel
theorem dL_law_895 : decode cL_law 895 = .ok (.aload_n 0, 1) := by decide +kernel
theorem dL_law_896 : decode cL_law 896 = .ok (.iload 4, 2) := by decide +kernel
theorem dL_law_898 : decode cL_law 898 = .ok (.iconst 1, 1) := by decide +kernel
theorem dL_law_899 : decode cL_law 899 = .ok (.iadd, 1) := by decide +kernel
theorem dL_law_900 : decode cL_law 900 = .ok (.iaload, 1) := by decide +kernel
theorem dL_law_901 : decode cL_law 901 = .ok (.invokevirtual 137, 3) := by decide +kernel
theorem dL_law_904 : decode cL_law 904 = .ok (.istore 6, 2) := by decide +kernel
theorem dL_law_906 : decode cL_law 906 = .ok (.aload_n 2, 1) := by decide +kernel
theorem dL_law_907 : decode cL_law 907 = .ok (.invokevirtual 87, 3) := by decide +kernel
theorem dL_law_910 : decode cL_law 910 = .ok (.iload 5, 2) := by decide +kernel
theorem dL_law_912 : decode cL_law 912 = .ok (.if_icmp .eq 5, 3) := by decide +kernel
theorem dL_law_915 : decode cL_law 915 = .ok (.iconst 0, 1) := by decide +kernel
theorem dL_law_916 : decode cL_law 916 = .ok (.ireturn, 1) := by decide +kernel
theorem dL_law_917 : decode cL_law 917 = .ok (.iload 5, 2) := by decide +kernel
theorem dL_law_919 : decode cL_law 919 = .ok (.ifCond .ne 22, 3) := by decide +kernel
theorem dL_law_922 : decode cL_law 922 = .ok (.aload_n 3, 1) := by decide +kernel
theorem dL_law_923 : decode cL_law 923 = .ok (.iconst 0, 1) := by decide +kernel
theorem dL_law_924 : decode cL_law 924 = .ok (.laload, 1) := by decide +kernel
theorem dL_law_925 : decode cL_law 925 = .ok (.iload 6, 2) := by decide +kernel
theorem dL_law_927 : decode cL_law 927 = .ok (.ifCond .eq 7, 3) := by decide +kernel
theorem dL_law_930 : decode cL_law 930 = .ok (.lconst 1, 1) := by decide +kernel
theorem dL_law_931 : decode cL_law 931 = .ok (.goto 4, 3) := by decide +kernel
theorem dL_law_934 : decode cL_law 934 = .ok (.lconst 0, 1) := by decide +kernel
theorem dL_law_935 : decode cL_law 935 = .ok (.lcmp, 1) := by decide +kernel
theorem dL_law_936 : decode cL_law 936 = .ok (.ifCond .eq 5, 3) := by decide +kernel
theorem dL_law_939 : decode cL_law 939 = .ok (.iconst 0, 1) := by decide +kernel
theorem dL_law_940 : decode cL_law 940 = .ok (.ireturn, 1) := by decide +kernel
theorem dL_law_941 : decode cL_law 941 = .ok (.goto 602, 3) := by decide +kernel
theorem dL_law_944 : decode cL_law 944 = .ok (.aload_n 1, 1) := by decide +kernel
theorem dL_law_945 : decode cL_law 945 = .ok (.invokevirtual 138, 3) := by decide +kernel
theorem dL_law_948 : decode cL_law 948 = .ok (.aload_n 2, 1) := by decide +kernel
theorem dL_law_949 : decode cL_law 949 = .ok (.invokevirtual 142, 3) := by decide +kernel
theorem dL_law_952 : decode cL_law 952 = .ok (.if_icmp .eq 591, 3) := by decide +kernel
theorem dL_law_955 : decode cL_law 955 = .ok (.iconst 0, 1) := by decide +kernel
theorem dL_law_956 : decode cL_law 956 = .ok (.ireturn, 1) := by decide +kernel
theorem dL_law_957 : decode cL_law 957 = .ok (.aload_n 1, 1) := by decide +kernel
theorem dL_law_958 : decode cL_law 958 = .ok (.invokevirtual 143, 3) := by decide +kernel
theorem dL_law_961 : decode cL_law 961 = .ok (.aload_n 2, 1) := by decide +kernel
theorem dL_law_962 : decode cL_law 962 = .ok (.invokevirtual 146, 3) := by decide +kernel
theorem dL_law_965 : decode cL_law 965 = .ok (.if_icmp .eq 578, 3) := by decide +kernel
theorem dL_law_968 : decode cL_law 968 = .ok (.iconst 0, 1) := by decide +kernel
theorem dL_law_969 : decode cL_law 969 = .ok (.ireturn, 1) := by decide +kernel
theorem dL_law_970 : decode cL_law 970 = .ok (.aload_n 1, 1) := by decide +kernel
theorem dL_law_971 : decode cL_law 971 = .ok (.aload_n 0, 1) := by decide +kernel
theorem dL_law_972 : decode cL_law 972 = .ok (.iload 4, 2) := by decide +kernel
theorem dL_law_974 : decode cL_law 974 = .ok (.iconst 1, 1) := by decide +kernel
theorem dL_law_975 : decode cL_law 975 = .ok (.iadd, 1) := by decide +kernel
theorem dL_law_976 : decode cL_law 976 = .ok (.iaload, 1) := by decide +kernel
theorem dL_law_977 : decode cL_law 977 = .ok (.aload_n 3, 1) := by decide +kernel
theorem dL_law_978 : decode cL_law 978 = .ok (.invokestatic 147, 3) := by decide +kernel
theorem dL_law_981 : decode cL_law 981 = .ok (.istore 5, 2) := by decide +kernel
theorem dL_law_983 : decode cL_law 983 = .ok (.aload_n 2, 1) := by decide +kernel
theorem dL_law_984 : decode cL_law 984 = .ok (.aload_n 0, 1) := by decide +kernel
theorem dL_law_985 : decode cL_law 985 = .ok (.iload 4, 2) := by decide +kernel
theorem dL_law_987 : decode cL_law 987 = .ok (.iconst 1, 1) := by decide +kernel
theorem dL_law_988 : decode cL_law 988 = .ok (.iadd, 1) := by decide +kernel
theorem dL_law_989 : decode cL_law 989 = .ok (.iaload, 1) := by decide +kernel
theorem dL_law_990 : decode cL_law 990 = .ok (.invokevirtual 149, 3) := by decide +kernel
theorem dL_law_993 : decode cL_law 993 = .ok (.istore 6, 2) := by decide +kernel
theorem dL_law_995 : decode cL_law 995 = .ok (.aload_n 2, 1) := by decide +kernel
theorem dL_law_996 : decode cL_law 996 = .ok (.invokevirtual 87, 3) := by decide +kernel
theorem dL_law_999 : decode cL_law 999 = .ok (.iload 5, 2) := by decide +kernel
theorem dL_law_1001 : decode cL_law 1001 = .ok (.if_icmp .eq 5, 3) := by decide +kernel
theorem dL_law_1004 : decode cL_law 1004 = .ok (.iconst 0, 1) := by decide +kernel
theorem dL_law_1005 : decode cL_law 1005 = .ok (.ireturn, 1) := by decide +kernel
theorem dL_law_1006 : decode cL_law 1006 = .ok (.iload 5, 2) := by decide +kernel
theorem dL_law_1008 : decode cL_law 1008 = .ok (.ifCond .ne 15, 3) := by decide +kernel
theorem dL_law_1011 : decode cL_law 1011 = .ok (.aload_n 3, 1) := by decide +kernel
theorem dL_law_1012 : decode cL_law 1012 = .ok (.iconst 0, 1) := by decide +kernel
theorem dL_law_1013 : decode cL_law 1013 = .ok (.laload, 1) := by decide +kernel
theorem dL_law_1014 : decode cL_law 1014 = .ok (.iload 6, 2) := by decide +kernel
theorem dL_law_1016 : decode cL_law 1016 = .ok (.i2l, 1) := by decide +kernel
theorem dL_law_1017 : decode cL_law 1017 = .ok (.lcmp, 1) := by decide +kernel
theorem dL_law_1018 : decode cL_law 1018 = .ok (.ifCond .eq 5, 3) := by decide +kernel
theorem dL_law_1021 : decode cL_law 1021 = .ok (.iconst 0, 1) := by decide +kernel
theorem dL_law_1022 : decode cL_law 1022 = .ok (.ireturn, 1) := by decide +kernel
theorem dL_law_1023 : decode cL_law 1023 = .ok (.goto 520, 3) := by decide +kernel
theorem dL_law_1026 : decode cL_law 1026 = .ok (.aload_n 1, 1) := by decide +kernel
theorem dL_law_1027 : decode cL_law 1027 = .ok (.aload_n 0, 1) := by decide +kernel
theorem dL_law_1028 : decode cL_law 1028 = .ok (.iload 4, 2) := by decide +kernel
theorem dL_law_1030 : decode cL_law 1030 = .ok (.iconst 1, 1) := by decide +kernel
theorem dL_law_1031 : decode cL_law 1031 = .ok (.iadd, 1) := by decide +kernel
theorem dL_law_1032 : decode cL_law 1032 = .ok (.iaload, 1) := by decide +kernel
theorem dL_law_1033 : decode cL_law 1033 = .ok (.aload_n 3, 1) := by decide +kernel
theorem dL_law_1034 : decode cL_law 1034 = .ok (.invokestatic 150, 3) := by decide +kernel
theorem dL_law_1037 : decode cL_law 1037 = .ok (.istore 5, 2) := by decide +kernel
theorem dL_law_1039 : decode cL_law 1039 = .ok (.aload_n 2, 1) := by decide +kernel
theorem dL_law_1040 : decode cL_law 1040 = .ok (.aload_n 0, 1) := by decide +kernel
theorem dL_law_1041 : decode cL_law 1041 = .ok (.iload 4, 2) := by decide +kernel
theorem dL_law_1043 : decode cL_law 1043 = .ok (.iconst 1, 1) := by decide +kernel
theorem dL_law_1044 : decode cL_law 1044 = .ok (.iadd, 1) := by decide +kernel
theorem dL_law_1045 : decode cL_law 1045 = .ok (.iaload, 1) := by decide +kernel
theorem dL_law_1046 : decode cL_law 1046 = .ok (.invokevirtual 152, 3) := by decide +kernel
theorem dL_law_1049 : decode cL_law 1049 = .ok (.istore 6, 2) := by decide +kernel
theorem dL_law_1051 : decode cL_law 1051 = .ok (.aload_n 2, 1) := by decide +kernel
theorem dL_law_1052 : decode cL_law 1052 = .ok (.invokevirtual 87, 3) := by decide +kernel
theorem dL_law_1055 : decode cL_law 1055 = .ok (.iload 5, 2) := by decide +kernel
theorem dL_law_1057 : decode cL_law 1057 = .ok (.if_icmp .eq 5, 3) := by decide +kernel
theorem dL_law_1060 : decode cL_law 1060 = .ok (.iconst 0, 1) := by decide +kernel
theorem dL_law_1061 : decode cL_law 1061 = .ok (.ireturn, 1) := by decide +kernel
theorem dL_law_1062 : decode cL_law 1062 = .ok (.iload 5, 2) := by decide +kernel
theorem dL_law_1064 : decode cL_law 1064 = .ok (.ifCond .ne 15, 3) := by decide +kernel
theorem dL_law_1067 : decode cL_law 1067 = .ok (.aload_n 3, 1) := by decide +kernel
theorem dL_law_1068 : decode cL_law 1068 = .ok (.iconst 0, 1) := by decide +kernel
theorem dL_law_1069 : decode cL_law 1069 = .ok (.laload, 1) := by decide +kernel
theorem dL_law_1070 : decode cL_law 1070 = .ok (.iload 6, 2) := by decide +kernel
theorem dL_law_1072 : decode cL_law 1072 = .ok (.i2l, 1) := by decide +kernel
theorem dL_law_1073 : decode cL_law 1073 = .ok (.lcmp, 1) := by decide +kernel
theorem dL_law_1074 : decode cL_law 1074 = .ok (.ifCond .eq 5, 3) := by decide +kernel
theorem dL_law_1077 : decode cL_law 1077 = .ok (.iconst 0, 1) := by decide +kernel
theorem dL_law_1078 : decode cL_law 1078 = .ok (.ireturn, 1) := by decide +kernel
theorem dL_law_1079 : decode cL_law 1079 = .ok (.goto 464, 3) := by decide +kernel
theorem dL_law_1082 : decode cL_law 1082 = .ok (.aload_n 1, 1) := by decide +kernel
theorem dL_law_1083 : decode cL_law 1083 = .ok (.aload_n 0, 1) := by decide +kernel
theorem dL_law_1084 : decode cL_law 1084 = .ok (.iload 4, 2) := by decide +kernel
theorem dL_law_1086 : decode cL_law 1086 = .ok (.iconst 1, 1) := by decide +kernel
theorem dL_law_1087 : decode cL_law 1087 = .ok (.iadd, 1) := by decide +kernel
theorem dL_law_1088 : decode cL_law 1088 = .ok (.iaload, 1) := by decide +kernel
theorem dL_law_1089 : decode cL_law 1089 = .ok (.aload_n 3, 1) := by decide +kernel
theorem dL_law_1090 : decode cL_law 1090 = .ok (.invokestatic 153, 3) := by decide +kernel
theorem dL_law_1093 : decode cL_law 1093 = .ok (.istore 5, 2) := by decide +kernel
theorem dL_law_1095 : decode cL_law 1095 = .ok (.aload_n 2, 1) := by decide +kernel
theorem dL_law_1096 : decode cL_law 1096 = .ok (.aload_n 0, 1) := by decide +kernel
theorem dL_law_1097 : decode cL_law 1097 = .ok (.iload 4, 2) := by decide +kernel
theorem dL_law_1099 : decode cL_law 1099 = .ok (.iconst 1, 1) := by decide +kernel
theorem dL_law_1100 : decode cL_law 1100 = .ok (.iadd, 1) := by decide +kernel
theorem dL_law_1101 : decode cL_law 1101 = .ok (.iaload, 1) := by decide +kernel
theorem dL_law_1102 : decode cL_law 1102 = .ok (.invokevirtual 155, 3) := by decide +kernel
theorem dL_law_1105 : decode cL_law 1105 = .ok (.istore 6, 2) := by decide +kernel
theorem dL_law_1107 : decode cL_law 1107 = .ok (.aload_n 2, 1) := by decide +kernel
theorem dL_law_1108 : decode cL_law 1108 = .ok (.invokevirtual 87, 3) := by decide +kernel
theorem dL_law_1111 : decode cL_law 1111 = .ok (.iload 5, 2) := by decide +kernel
theorem dL_law_1113 : decode cL_law 1113 = .ok (.if_icmp .eq 5, 3) := by decide +kernel
theorem dL_law_1116 : decode cL_law 1116 = .ok (.iconst 0, 1) := by decide +kernel
theorem dL_law_1117 : decode cL_law 1117 = .ok (.ireturn, 1) := by decide +kernel
theorem dL_law_1118 : decode cL_law 1118 = .ok (.iload 5, 2) := by decide +kernel
theorem dL_law_1120 : decode cL_law 1120 = .ok (.ifCond .ne 15, 3) := by decide +kernel
theorem dL_law_1123 : decode cL_law 1123 = .ok (.aload_n 3, 1) := by decide +kernel
theorem dL_law_1124 : decode cL_law 1124 = .ok (.iconst 0, 1) := by decide +kernel
theorem dL_law_1125 : decode cL_law 1125 = .ok (.laload, 1) := by decide +kernel
theorem dL_law_1126 : decode cL_law 1126 = .ok (.iload 6, 2) := by decide +kernel
theorem dL_law_1128 : decode cL_law 1128 = .ok (.i2l, 1) := by decide +kernel
theorem dL_law_1129 : decode cL_law 1129 = .ok (.lcmp, 1) := by decide +kernel
theorem dL_law_1130 : decode cL_law 1130 = .ok (.ifCond .eq 5, 3) := by decide +kernel
theorem dL_law_1133 : decode cL_law 1133 = .ok (.iconst 0, 1) := by decide +kernel
theorem dL_law_1134 : decode cL_law 1134 = .ok (.ireturn, 1) := by decide +kernel
theorem dL_law_1135 : decode cL_law 1135 = .ok (.goto 408, 3) := by decide +kernel
theorem dL_law_1138 : decode cL_law 1138 = .ok (.aload_n 1, 1) := by decide +kernel
theorem dL_law_1139 : decode cL_law 1139 = .ok (.aload_n 0, 1) := by decide +kernel
theorem dL_law_1140 : decode cL_law 1140 = .ok (.iload 4, 2) := by decide +kernel
theorem dL_law_1142 : decode cL_law 1142 = .ok (.iconst 1, 1) := by decide +kernel
theorem dL_law_1143 : decode cL_law 1143 = .ok (.iadd, 1) := by decide +kernel
theorem dL_law_1144 : decode cL_law 1144 = .ok (.iaload, 1) := by decide +kernel
theorem dL_law_1145 : decode cL_law 1145 = .ok (.aload_n 3, 1) := by decide +kernel
theorem dL_law_1146 : decode cL_law 1146 = .ok (.invokestatic 156, 3) := by decide +kernel
theorem dL_law_1149 : decode cL_law 1149 = .ok (.istore 5, 2) := by decide +kernel
theorem dL_law_1151 : decode cL_law 1151 = .ok (.aload_n 2, 1) := by decide +kernel
theorem dL_law_1152 : decode cL_law 1152 = .ok (.aload_n 0, 1) := by decide +kernel
theorem dL_law_1153 : decode cL_law 1153 = .ok (.iload 4, 2) := by decide +kernel
theorem dL_law_1155 : decode cL_law 1155 = .ok (.iconst 1, 1) := by decide +kernel
theorem dL_law_1156 : decode cL_law 1156 = .ok (.iadd, 1) := by decide +kernel
theorem dL_law_1157 : decode cL_law 1157 = .ok (.iaload, 1) := by decide +kernel
theorem dL_law_1158 : decode cL_law 1158 = .ok (.invokevirtual 158, 3) := by decide +kernel
theorem dL_law_1161 : decode cL_law 1161 = .ok (.istore 6, 2) := by decide +kernel
theorem dL_law_1163 : decode cL_law 1163 = .ok (.aload_n 2, 1) := by decide +kernel
theorem dL_law_1164 : decode cL_law 1164 = .ok (.invokevirtual 87, 3) := by decide +kernel
theorem dL_law_1167 : decode cL_law 1167 = .ok (.iload 5, 2) := by decide +kernel
theorem dL_law_1169 : decode cL_law 1169 = .ok (.if_icmp .eq 5, 3) := by decide +kernel
theorem dL_law_1172 : decode cL_law 1172 = .ok (.iconst 0, 1) := by decide +kernel
theorem dL_law_1173 : decode cL_law 1173 = .ok (.ireturn, 1) := by decide +kernel
theorem dL_law_1174 : decode cL_law 1174 = .ok (.iload 5, 2) := by decide +kernel
theorem dL_law_1176 : decode cL_law 1176 = .ok (.ifCond .ne 15, 3) := by decide +kernel
theorem dL_law_1179 : decode cL_law 1179 = .ok (.aload_n 3, 1) := by decide +kernel
theorem dL_law_1180 : decode cL_law 1180 = .ok (.iconst 0, 1) := by decide +kernel
theorem dL_law_1181 : decode cL_law 1181 = .ok (.laload, 1) := by decide +kernel
theorem dL_law_1182 : decode cL_law 1182 = .ok (.iload 6, 2) := by decide +kernel
theorem dL_law_1184 : decode cL_law 1184 = .ok (.i2l, 1) := by decide +kernel
theorem dL_law_1185 : decode cL_law 1185 = .ok (.lcmp, 1) := by decide +kernel
theorem dL_law_1186 : decode cL_law 1186 = .ok (.ifCond .eq 5, 3) := by decide +kernel
theorem dL_law_1189 : decode cL_law 1189 = .ok (.iconst 0, 1) := by decide +kernel
theorem dL_law_1190 : decode cL_law 1190 = .ok (.ireturn, 1) := by decide +kernel
theorem dL_law_1191 : decode cL_law 1191 = .ok (.goto 352, 3) := by decide +kernel
theorem dL_law_1194 : decode cL_law 1194 = .ok (.aload_n 1, 1) := by decide +kernel
theorem dL_law_1195 : decode cL_law 1195 = .ok (.invokevirtual 159, 3) := by decide +kernel
theorem dL_law_1198 : decode cL_law 1198 = .ok (.aload_n 2, 1) := by decide +kernel
theorem dL_law_1199 : decode cL_law 1199 = .ok (.invokevirtual 162, 3) := by decide +kernel
theorem dL_law_1202 : decode cL_law 1202 = .ok (.if_icmp .eq 341, 3) := by decide +kernel
theorem dL_law_1205 : decode cL_law 1205 = .ok (.iconst 0, 1) := by decide +kernel
theorem dL_law_1206 : decode cL_law 1206 = .ok (.ireturn, 1) := by decide +kernel
theorem dL_law_1207 : decode cL_law 1207 = .ok (.aload_n 1, 1) := by decide +kernel
theorem dL_law_1208 : decode cL_law 1208 = .ok (.invokevirtual 163, 3) := by decide +kernel
theorem dL_law_1211 : decode cL_law 1211 = .ok (.aload_n 2, 1) := by decide +kernel
theorem dL_law_1212 : decode cL_law 1212 = .ok (.invokevirtual 166, 3) := by decide +kernel
theorem dL_law_1215 : decode cL_law 1215 = .ok (.if_icmp .eq 328, 3) := by decide +kernel
theorem dL_law_1218 : decode cL_law 1218 = .ok (.iconst 0, 1) := by decide +kernel
theorem dL_law_1219 : decode cL_law 1219 = .ok (.ireturn, 1) := by decide +kernel
theorem dL_law_1220 : decode cL_law 1220 = .ok (.aload_n 1, 1) := by decide +kernel
theorem dL_law_1221 : decode cL_law 1221 = .ok (.aload_n 0, 1) := by decide +kernel
theorem dL_law_1222 : decode cL_law 1222 = .ok (.iload 4, 2) := by decide +kernel
theorem dL_law_1224 : decode cL_law 1224 = .ok (.iconst 1, 1) := by decide +kernel
theorem dL_law_1225 : decode cL_law 1225 = .ok (.iadd, 1) := by decide +kernel
theorem dL_law_1226 : decode cL_law 1226 = .ok (.iaload, 1) := by decide +kernel
theorem dL_law_1227 : decode cL_law 1227 = .ok (.aload_n 3, 1) := by decide +kernel
theorem dL_law_1228 : decode cL_law 1228 = .ok (.invokestatic 167, 3) := by decide +kernel
theorem dL_law_1231 : decode cL_law 1231 = .ok (.istore 5, 2) := by decide +kernel
theorem dL_law_1233 : decode cL_law 1233 = .ok (.aload_n 2, 1) := by decide +kernel
theorem dL_law_1234 : decode cL_law 1234 = .ok (.aload_n 0, 1) := by decide +kernel
theorem dL_law_1235 : decode cL_law 1235 = .ok (.iload 4, 2) := by decide +kernel
theorem dL_law_1237 : decode cL_law 1237 = .ok (.iconst 1, 1) := by decide +kernel
theorem dL_law_1238 : decode cL_law 1238 = .ok (.iadd, 1) := by decide +kernel
theorem dL_law_1239 : decode cL_law 1239 = .ok (.iaload, 1) := by decide +kernel
theorem dL_law_1240 : decode cL_law 1240 = .ok (.invokevirtual 169, 3) := by decide +kernel
theorem dL_law_1243 : decode cL_law 1243 = .ok (.istore 6, 2) := by decide +kernel
theorem dL_law_1245 : decode cL_law 1245 = .ok (.aload_n 2, 1) := by decide +kernel
theorem dL_law_1246 : decode cL_law 1246 = .ok (.invokevirtual 87, 3) := by decide +kernel
theorem dL_law_1249 : decode cL_law 1249 = .ok (.iload 5, 2) := by decide +kernel
theorem dL_law_1251 : decode cL_law 1251 = .ok (.if_icmp .eq 5, 3) := by decide +kernel
theorem dL_law_1254 : decode cL_law 1254 = .ok (.iconst 0, 1) := by decide +kernel
theorem dL_law_1255 : decode cL_law 1255 = .ok (.ireturn, 1) := by decide +kernel
theorem dL_law_1256 : decode cL_law 1256 = .ok (.iload 5, 2) := by decide +kernel
theorem dL_law_1258 : decode cL_law 1258 = .ok (.ifCond .ne 22, 3) := by decide +kernel
theorem dL_law_1261 : decode cL_law 1261 = .ok (.aload_n 3, 1) := by decide +kernel
theorem dL_law_1262 : decode cL_law 1262 = .ok (.iconst 0, 1) := by decide +kernel
theorem dL_law_1263 : decode cL_law 1263 = .ok (.laload, 1) := by decide +kernel
theorem dL_law_1264 : decode cL_law 1264 = .ok (.iload 6, 2) := by decide +kernel
theorem dL_law_1266 : decode cL_law 1266 = .ok (.ifCond .eq 7, 3) := by decide +kernel
theorem dL_law_1269 : decode cL_law 1269 = .ok (.lconst 1, 1) := by decide +kernel
theorem dL_law_1270 : decode cL_law 1270 = .ok (.goto 4, 3) := by decide +kernel
theorem dL_law_1273 : decode cL_law 1273 = .ok (.lconst 0, 1) := by decide +kernel
theorem dL_law_1274 : decode cL_law 1274 = .ok (.lcmp, 1) := by decide +kernel
theorem dL_law_1275 : decode cL_law 1275 = .ok (.ifCond .eq 5, 3) := by decide +kernel
theorem dL_law_1278 : decode cL_law 1278 = .ok (.iconst 0, 1) := by decide +kernel
theorem dL_law_1279 : decode cL_law 1279 = .ok (.ireturn, 1) := by decide +kernel
theorem dL_law_1280 : decode cL_law 1280 = .ok (.goto 263, 3) := by decide +kernel
theorem dL_law_1283 : decode cL_law 1283 = .ok (.aload_n 1, 1) := by decide +kernel
theorem dL_law_1284 : decode cL_law 1284 = .ok (.invokevirtual 170, 3) := by decide +kernel
theorem dL_law_1287 : decode cL_law 1287 = .ok (.aload_n 2, 1) := by decide +kernel
theorem dL_law_1288 : decode cL_law 1288 = .ok (.invokevirtual 173, 3) := by decide +kernel
theorem dL_law_1291 : decode cL_law 1291 = .ok (.if_icmp .eq 252, 3) := by decide +kernel
theorem dL_law_1294 : decode cL_law 1294 = .ok (.iconst 0, 1) := by decide +kernel
theorem dL_law_1295 : decode cL_law 1295 = .ok (.ireturn, 1) := by decide +kernel
theorem dL_law_1296 : decode cL_law 1296 = .ok (.aload_n 1, 1) := by decide +kernel
theorem dL_law_1297 : decode cL_law 1297 = .ok (.invokevirtual 174, 3) := by decide +kernel
theorem dL_law_1300 : decode cL_law 1300 = .ok (.aload_n 2, 1) := by decide +kernel
theorem dL_law_1301 : decode cL_law 1301 = .ok (.invokevirtual 177, 3) := by decide +kernel
theorem dL_law_1304 : decode cL_law 1304 = .ok (.if_icmp .eq 239, 3) := by decide +kernel
theorem dL_law_1307 : decode cL_law 1307 = .ok (.iconst 0, 1) := by decide +kernel
theorem dL_law_1308 : decode cL_law 1308 = .ok (.ireturn, 1) := by decide +kernel
theorem dL_law_1309 : decode cL_law 1309 = .ok (.aload_n 1, 1) := by decide +kernel
theorem dL_law_1310 : decode cL_law 1310 = .ok (.invokevirtual 178, 3) := by decide +kernel
theorem dL_law_1313 : decode cL_law 1313 = .ok (.aload_n 2, 1) := by decide +kernel
theorem dL_law_1314 : decode cL_law 1314 = .ok (.invokevirtual 181, 3) := by decide +kernel
theorem dL_law_1317 : decode cL_law 1317 = .ok (.if_icmp .eq 226, 3) := by decide +kernel
theorem dL_law_1320 : decode cL_law 1320 = .ok (.iconst 0, 1) := by decide +kernel
theorem dL_law_1321 : decode cL_law 1321 = .ok (.ireturn, 1) := by decide +kernel
theorem dL_law_1322 : decode cL_law 1322 = .ok (.aload_n 1, 1) := by decide +kernel
theorem dL_law_1323 : decode cL_law 1323 = .ok (.invokevirtual 182, 3) := by decide +kernel
theorem dL_law_1326 : decode cL_law 1326 = .ok (.aload_n 2, 1) := by decide +kernel
theorem dL_law_1327 : decode cL_law 1327 = .ok (.invokevirtual 185, 3) := by decide +kernel
theorem dL_law_1330 : decode cL_law 1330 = .ok (.if_icmp .eq 213, 3) := by decide +kernel
theorem dL_law_1333 : decode cL_law 1333 = .ok (.iconst 0, 1) := by decide +kernel
theorem dL_law_1334 : decode cL_law 1334 = .ok (.ireturn, 1) := by decide +kernel
theorem dL_law_1335 : decode cL_law 1335 = .ok (.aload_n 1, 1) := by decide +kernel
theorem dL_law_1336 : decode cL_law 1336 = .ok (.aload_n 0, 1) := by decide +kernel
theorem dL_law_1337 : decode cL_law 1337 = .ok (.iload 4, 2) := by decide +kernel
theorem dL_law_1339 : decode cL_law 1339 = .ok (.iconst 1, 1) := by decide +kernel
theorem dL_law_1340 : decode cL_law 1340 = .ok (.iadd, 1) := by decide +kernel
theorem dL_law_1341 : decode cL_law 1341 = .ok (.iaload, 1) := by decide +kernel
theorem dL_law_1342 : decode cL_law 1342 = .ok (.aload_n 3, 1) := by decide +kernel
theorem dL_law_1343 : decode cL_law 1343 = .ok (.invokestatic 186, 3) := by decide +kernel
theorem dL_law_1346 : decode cL_law 1346 = .ok (.istore 5, 2) := by decide +kernel
theorem dL_law_1348 : decode cL_law 1348 = .ok (.aload_n 2, 1) := by decide +kernel
theorem dL_law_1349 : decode cL_law 1349 = .ok (.aload_n 0, 1) := by decide +kernel
theorem dL_law_1350 : decode cL_law 1350 = .ok (.iload 4, 2) := by decide +kernel
theorem dL_law_1352 : decode cL_law 1352 = .ok (.iconst 1, 1) := by decide +kernel
theorem dL_law_1353 : decode cL_law 1353 = .ok (.iadd, 1) := by decide +kernel
theorem dL_law_1354 : decode cL_law 1354 = .ok (.iaload, 1) := by decide +kernel
theorem dL_law_1355 : decode cL_law 1355 = .ok (.invokevirtual 188, 3) := by decide +kernel
theorem dL_law_1358 : decode cL_law 1358 = .ok (.istore 6, 2) := by decide +kernel
theorem dL_law_1360 : decode cL_law 1360 = .ok (.aload_n 2, 1) := by decide +kernel
theorem dL_law_1361 : decode cL_law 1361 = .ok (.invokevirtual 87, 3) := by decide +kernel
theorem dL_law_1364 : decode cL_law 1364 = .ok (.iload 5, 2) := by decide +kernel
theorem dL_law_1366 : decode cL_law 1366 = .ok (.if_icmp .eq 5, 3) := by decide +kernel
theorem dL_law_1369 : decode cL_law 1369 = .ok (.iconst 0, 1) := by decide +kernel
theorem dL_law_1370 : decode cL_law 1370 = .ok (.ireturn, 1) := by decide +kernel
theorem dL_law_1371 : decode cL_law 1371 = .ok (.iload 5, 2) := by decide +kernel
theorem dL_law_1373 : decode cL_law 1373 = .ok (.ifCond .ne 15, 3) := by decide +kernel
theorem dL_law_1376 : decode cL_law 1376 = .ok (.aload_n 3, 1) := by decide +kernel
theorem dL_law_1377 : decode cL_law 1377 = .ok (.iconst 0, 1) := by decide +kernel
theorem dL_law_1378 : decode cL_law 1378 = .ok (.laload, 1) := by decide +kernel
theorem dL_law_1379 : decode cL_law 1379 = .ok (.iload 6, 2) := by decide +kernel
theorem dL_law_1381 : decode cL_law 1381 = .ok (.i2l, 1) := by decide +kernel
theorem dL_law_1382 : decode cL_law 1382 = .ok (.lcmp, 1) := by decide +kernel
theorem dL_law_1383 : decode cL_law 1383 = .ok (.ifCond .eq 5, 3) := by decide +kernel
theorem dL_law_1386 : decode cL_law 1386 = .ok (.iconst 0, 1) := by decide +kernel
theorem dL_law_1387 : decode cL_law 1387 = .ok (.ireturn, 1) := by decide +kernel
theorem dL_law_1388 : decode cL_law 1388 = .ok (.goto 155, 3) := by decide +kernel
theorem dL_law_1391 : decode cL_law 1391 = .ok (.aload_n 1, 1) := by decide +kernel
theorem dL_law_1392 : decode cL_law 1392 = .ok (.invokevirtual 189, 3) := by decide +kernel
theorem dL_law_1395 : decode cL_law 1395 = .ok (.aload_n 2, 1) := by decide +kernel
theorem dL_law_1396 : decode cL_law 1396 = .ok (.invokevirtual 192, 3) := by decide +kernel
theorem dL_law_1399 : decode cL_law 1399 = .ok (.if_icmp .eq 144, 3) := by decide +kernel
theorem dL_law_1402 : decode cL_law 1402 = .ok (.iconst 0, 1) := by decide +kernel
theorem dL_law_1403 : decode cL_law 1403 = .ok (.ireturn, 1) := by decide +kernel
theorem dL_law_1404 : decode cL_law 1404 = .ok (.aload_n 1, 1) := by decide +kernel
theorem dL_law_1405 : decode cL_law 1405 = .ok (.aload_n 0, 1) := by decide +kernel
theorem dL_law_1406 : decode cL_law 1406 = .ok (.iload 4, 2) := by decide +kernel
theorem dL_law_1408 : decode cL_law 1408 = .ok (.iconst 1, 1) := by decide +kernel
theorem dL_law_1409 : decode cL_law 1409 = .ok (.iadd, 1) := by decide +kernel
theorem dL_law_1410 : decode cL_law 1410 = .ok (.iaload, 1) := by decide +kernel
theorem dL_law_1411 : decode cL_law 1411 = .ok (.aload_n 0, 1) := by decide +kernel
theorem dL_law_1412 : decode cL_law 1412 = .ok (.iload 4, 2) := by decide +kernel
theorem dL_law_1414 : decode cL_law 1414 = .ok (.iconst 2, 1) := by decide +kernel
theorem dL_law_1415 : decode cL_law 1415 = .ok (.iadd, 1) := by decide +kernel
theorem dL_law_1416 : decode cL_law 1416 = .ok (.iaload, 1) := by decide +kernel
theorem dL_law_1417 : decode cL_law 1417 = .ok (.ifCond .eq 7, 3) := by decide +kernel
theorem dL_law_1420 : decode cL_law 1420 = .ok (.iconst 1, 1) := by decide +kernel
theorem dL_law_1421 : decode cL_law 1421 = .ok (.goto 4, 3) := by decide +kernel
theorem dL_law_1424 : decode cL_law 1424 = .ok (.iconst 0, 1) := by decide +kernel
theorem dL_law_1425 : decode cL_law 1425 = .ok (.aload_n 3, 1) := by decide +kernel
theorem dL_law_1426 : decode cL_law 1426 = .ok (.invokestatic 193, 3) := by decide +kernel
theorem dL_law_1429 : decode cL_law 1429 = .ok (.istore 5, 2) := by decide +kernel
theorem dL_law_1431 : decode cL_law 1431 = .ok (.aload_n 2, 1) := by decide +kernel
theorem dL_law_1432 : decode cL_law 1432 = .ok (.aload_n 0, 1) := by decide +kernel
theorem dL_law_1433 : decode cL_law 1433 = .ok (.iload 4, 2) := by decide +kernel
theorem dL_law_1435 : decode cL_law 1435 = .ok (.iconst 1, 1) := by decide +kernel
theorem dL_law_1436 : decode cL_law 1436 = .ok (.iadd, 1) := by decide +kernel
theorem dL_law_1437 : decode cL_law 1437 = .ok (.iaload, 1) := by decide +kernel
theorem dL_law_1438 : decode cL_law 1438 = .ok (.aload_n 0, 1) := by decide +kernel
theorem dL_law_1439 : decode cL_law 1439 = .ok (.iload 4, 2) := by decide +kernel
theorem dL_law_1441 : decode cL_law 1441 = .ok (.iconst 2, 1) := by decide +kernel
theorem dL_law_1442 : decode cL_law 1442 = .ok (.iadd, 1) := by decide +kernel
theorem dL_law_1443 : decode cL_law 1443 = .ok (.iaload, 1) := by decide +kernel
theorem dL_law_1444 : decode cL_law 1444 = .ok (.ifCond .eq 7, 3) := by decide +kernel
theorem dL_law_1447 : decode cL_law 1447 = .ok (.iconst 1, 1) := by decide +kernel
theorem dL_law_1448 : decode cL_law 1448 = .ok (.goto 4, 3) := by decide +kernel
theorem dL_law_1451 : decode cL_law 1451 = .ok (.iconst 0, 1) := by decide +kernel
theorem dL_law_1452 : decode cL_law 1452 = .ok (.invokevirtual 195, 3) := by decide +kernel
theorem dL_law_1455 : decode cL_law 1455 = .ok (.istore 6, 2) := by decide +kernel
theorem dL_law_1457 : decode cL_law 1457 = .ok (.aload_n 2, 1) := by decide +kernel
theorem dL_law_1458 : decode cL_law 1458 = .ok (.invokevirtual 87, 3) := by decide +kernel
theorem dL_law_1461 : decode cL_law 1461 = .ok (.iload 5, 2) := by decide +kernel
theorem dL_law_1463 : decode cL_law 1463 = .ok (.if_icmp .eq 5, 3) := by decide +kernel
theorem dL_law_1466 : decode cL_law 1466 = .ok (.iconst 0, 1) := by decide +kernel
theorem dL_law_1467 : decode cL_law 1467 = .ok (.ireturn, 1) := by decide +kernel
theorem dL_law_1468 : decode cL_law 1468 = .ok (.iload 5, 2) := by decide +kernel
theorem dL_law_1470 : decode cL_law 1470 = .ok (.ifCond .ne 15, 3) := by decide +kernel
theorem dL_law_1473 : decode cL_law 1473 = .ok (.aload_n 3, 1) := by decide +kernel
theorem dL_law_1474 : decode cL_law 1474 = .ok (.iconst 0, 1) := by decide +kernel
theorem dL_law_1475 : decode cL_law 1475 = .ok (.laload, 1) := by decide +kernel
theorem dL_law_1476 : decode cL_law 1476 = .ok (.iload 6, 2) := by decide +kernel
theorem dL_law_1478 : decode cL_law 1478 = .ok (.i2l, 1) := by decide +kernel
theorem dL_law_1479 : decode cL_law 1479 = .ok (.lcmp, 1) := by decide +kernel
theorem dL_law_1480 : decode cL_law 1480 = .ok (.ifCond .eq 5, 3) := by decide +kernel
theorem dL_law_1483 : decode cL_law 1483 = .ok (.iconst 0, 1) := by decide +kernel
theorem dL_law_1484 : decode cL_law 1484 = .ok (.ireturn, 1) := by decide +kernel
theorem dL_law_1485 : decode cL_law 1485 = .ok (.goto 58, 3) := by decide +kernel
theorem dL_law_1488 : decode cL_law 1488 = .ok (.aload_n 1, 1) := by decide +kernel
theorem dL_law_1489 : decode cL_law 1489 = .ok (.invokevirtual 196, 3) := by decide +kernel
theorem dL_law_1492 : decode cL_law 1492 = .ok (.dstore 5, 2) := by decide +kernel
theorem dL_law_1494 : decode cL_law 1494 = .ok (.aload_n 2, 1) := by decide +kernel
theorem dL_law_1495 : decode cL_law 1495 = .ok (.invokevirtual 200, 3) := by decide +kernel
theorem dL_law_1498 : decode cL_law 1498 = .ok (.dstore 7, 2) := by decide +kernel
theorem dL_law_1500 : decode cL_law 1500 = .ok (.dload 5, 2) := by decide +kernel
theorem dL_law_1502 : decode cL_law 1502 = .ok (.dload 7, 2) := by decide +kernel
theorem dL_law_1504 : decode cL_law 1504 = .ok (.dcmp .l, 1) := by decide +kernel
theorem dL_law_1505 : decode cL_law 1505 = .ok (.ifCond .eq 21, 3) := by decide +kernel
theorem dL_law_1508 : decode cL_law 1508 = .ok (.dload 5, 2) := by decide +kernel
theorem dL_law_1510 : decode cL_law 1510 = .ok (.dload 5, 2) := by decide +kernel
theorem dL_law_1512 : decode cL_law 1512 = .ok (.dcmp .l, 1) := by decide +kernel
theorem dL_law_1513 : decode cL_law 1513 = .ok (.ifCond .eq 11, 3) := by decide +kernel
theorem dL_law_1516 : decode cL_law 1516 = .ok (.dload 7, 2) := by decide +kernel
theorem dL_law_1518 : decode cL_law 1518 = .ok (.dload 7, 2) := by decide +kernel
theorem dL_law_1520 : decode cL_law 1520 = .ok (.dcmp .l, 1) := by decide +kernel
theorem dL_law_1521 : decode cL_law 1521 = .ok (.ifCond .ne 5, 3) := by decide +kernel
theorem dL_law_1524 : decode cL_law 1524 = .ok (.iconst 0, 1) := by decide +kernel
theorem dL_law_1525 : decode cL_law 1525 = .ok (.ireturn, 1) := by decide +kernel
theorem dL_law_1526 : decode cL_law 1526 = .ok (.goto 17, 3) := by decide +kernel
theorem dL_law_1529 : decode cL_law 1529 = .ok (.aload_n 1, 1) := by decide +kernel
theorem dL_law_1530 : decode cL_law 1530 = .ok (.invokevirtual 201, 3) := by decide +kernel
theorem dL_law_1533 : decode cL_law 1533 = .ok (.aload_n 2, 1) := by decide +kernel
theorem dL_law_1534 : decode cL_law 1534 = .ok (.invokevirtual 205, 3) := by decide +kernel
theorem dL_law_1537 : decode cL_law 1537 = .ok (.lcmp, 1) := by decide +kernel
theorem dL_law_1538 : decode cL_law 1538 = .ok (.ifCond .eq 5, 3) := by decide +kernel
theorem dL_law_1541 : decode cL_law 1541 = .ok (.iconst 0, 1) := by decide +kernel
theorem dL_law_1542 : decode cL_law 1542 = .ok (.ireturn, 1) := by decide +kernel
theorem dL_law_1543 : decode cL_law 1543 = .ok (.iinc 4 3, 3) := by decide +kernel
theorem dL_law_1546 : decode cL_law 1546 = .ok (.goto (-1523), 3) := by decide +kernel
theorem dL_law_1549 : decode cL_law 1549 = .ok (.iconst 1, 1) := by decide +kernel
theorem dL_law_1550 : decode cL_law 1550 = .ok (.ireturn, 1) := by decide +kernel
abbrev vwCl : List vw_C := [(RX0, TX0, 10), (RX1, TX1, 10)]
end
section
/-! ===== the two classes' common numbers: pure ===== -/
section PURE
def bI (b : Bool) : Int32 := if b = true then 1 else 0
theorem bI_t : bI true = 1 := rfl
theorem bI_f : bI false = 0 := rfl
theorem bI_z {b : Bool} : bI b = 0 → b = false := by cases b <;> decide
theorem bI_nz {b : Bool} : ¬ bI b = 0 → b = true := by cases b <;> decide
theorem bI_nar (b : Bool) : narrow .boolean (.int (bI b)) = .int (bI b) := by cases b <;> rfl
theorem bI_vnar (b : Bool) : vp_nar .boolean (bI b) = bI b := by cases b <;> rfl
/-- does the set s explain a night of u with the smudge z -/
def sx (s u : Int32) (z : Bool) : Bool := decide (¬ s &&& u = 0) == z
theorem sx_1 {s u : Int32} {z : Bool} (h : s &&& u = 0) (h2 : (0 : Int32) = bI z) : (1 : Int32) = bI (sx s u z) := by
  unfold sx
  rw [decide_eq_false (fun w => w h)]
  cases z
  · rfl
  · exact absurd h2 (by decide)
theorem sx_0 {s u : Int32} {z : Bool} (h : s &&& u = 0) (h2 : ¬ (0 : Int32) = bI z) : (0 : Int32) = bI (sx s u z) := by
  unfold sx
  rw [decide_eq_false (fun w => w h)]
  cases z
  · exact absurd rfl h2
  · rfl
theorem sx_3 {s u : Int32} {z : Bool} (h : ¬ s &&& u = 0) (h2 : (1 : Int32) = bI z) : (1 : Int32) = bI (sx s u z) := by
  unfold sx
  rw [decide_eq_true h]
  cases z
  · exact absurd h2 (by decide)
  · rfl
theorem sx_2 {s u : Int32} {z : Bool} (h : ¬ s &&& u = 0) (h2 : ¬ (1 : Int32) = bI z) : (0 : Int32) = bI (sx s u z) := by
  unfold sx
  rw [decide_eq_true h]
  cases z
  · rfl
  · exact absurd rfl h2
/-- how many k below n have p -/
def ct (p : Nat → Bool) : Nat → Nat
  | 0 => 0
  | n + 1 => ct p n + (if p n = true then 1 else 0)
theorem ct_s (p : Nat → Bool) (n : Nat) : ct p (n + 1) = ct p n + (if p n = true then 1 else 0) := rfl
theorem ct_t {p : Nat → Bool} {n : Nat} (h : p n = true) : nI (ct p n) + 1 = nI (ct p (n + 1)) := by
  rw [nI_1, ct_s, if_pos h]
theorem ct_f {p : Nat → Bool} {n : Nat} (h : p n = false) : nI (ct p n) = nI (ct p (n + 1)) := by
  rw [ct_s, h]; rfl
theorem ct_f0 {p : Nat → Bool} {n : Nat} (h : p n = false) : nI (ct p n) + 0 = nI (ct p (n + 1)) := by
  rw [← ct_f h]; exact Int32.add_zero _
theorem ct_le (p : Nat → Bool) : ∀ n, ct p n ≤ n
  | 0 => Nat.le_refl 0
  | n + 1 => by
    have h := ct_le p n
    rw [ct_s]
    by_cases hp : p n = true
    · rw [if_pos hp]; omega
    · rw [if_neg hp]; omega
theorem ct_cong {p q : Nat → Bool} : ∀ n, (∀ k, k < n → p k = q k) → ct p n = ct q n
  | 0, _ => rfl
  | n + 1, h => by rw [ct_s, ct_s, ct_cong n (fun k hk => h k (by omega)), h n (by omega)]
/-- how many of n nights the set s does not explain -/
def un (U : Nat → Int32) (Z : Nat → Bool) (s : Int32) (n : Nat) : Nat := ct (fun j => !(sx s (U j) (Z j))) n
theorem un_le (U : Nat → Int32) (Z : Nat → Bool) (s : Int32) (n : Nat) : un U Z s n ≤ n := ct_le _ n
theorem un_cong {U V : Nat → Int32} {Z Y : Nat → Bool} {n : Nat} (hu : ∀ j, j < n → U j = V j) (hz : ∀ j, j < n → Z j = Y j) (s : Int32) : un U Z s n = un V Y s n := ct_cong n (fun k hk => by
  show (!(sx s (U k) (Z k))) = !(sx s (V k) (Y k))
  rw [hu k hk, hz k hk])
/-- the set of the number k explains all n nights -/
def zz (U : Nat → Int32) (Z : Nat → Bool) (n k : Nat) : Bool := decide (nI (un U Z (nI k) n) = 0)
theorem zz_t {U : Nat → Int32} {Z : Nat → Bool} {n k : Nat} (h : nI (un U Z (nI k) n) = 0) : zz U Z n k = true := decide_eq_true h
theorem zz_f {U : Nat → Int32} {Z : Nat → Bool} {n k : Nat} (h : ¬ nI (un U Z (nI k) n) = 0) : zz U Z n k = false := decide_eq_false h
theorem zz_cong {U V : Nat → Int32} {Z Y : Nat → Bool} {n : Nat} (hu : ∀ j, j < n → U j = V j) (hz : ∀ j, j < n → Z j = Y j) (k : Nat) : zz U Z n k = zz V Y n k := by
  unfold zz; rw [un_cong hu hz]
theorem zz_iff {U : Nat → Int32} {Z : Nat → Bool} {n k : Nat} (hn : n ≤ 40) : zz U Z n k = true ↔ un U Z (nI k) n = 0 := by
  have h := un_le U Z (nI k) n
  unfold zz
  rw [decide_eq_true_iff, ← nI_0, nI_eq (by omega) (by omega)]
/-- is the thing p in the set s: by a mask, and by a shift -/
def ho (s p : Int32) : Bool := decide (¬ s &&& ((1 : Int32) <<< (p &&& 31)) = 0)
def hs (s p : Int32) : Bool := decide ((s >>> (p &&& 31)) &&& 1 = 1)
theorem ho_t {s p : Int32} (h : ¬ s &&& ((1 : Int32) <<< (p &&& 31)) = 0) : (1 : Int32) = bI (ho s p) := by unfold ho; rw [decide_eq_true h]; rfl
theorem ho_f {s p : Int32} (h : s &&& ((1 : Int32) <<< (p &&& 31)) = 0) : (0 : Int32) = bI (ho s p) := by unfold ho; rw [decide_eq_false (fun z => z h)]; rfl
theorem hs_t {s p : Int32} (h : (s >>> (p &&& 31)) &&& 1 = 1) : (1 : Int32) = bI (hs s p) := by unfold hs; rw [decide_eq_true h]; rfl
theorem hs_f {s p : Int32} (h : ¬ (s >>> (p &&& 31)) &&& 1 = 1) : (0 : Int32) = bI (hs s p) := by unfold hs; rw [decide_eq_false h]; rfl
/-- v lies from a to b -/
def rg (v a b : Int32) : Bool := decide (¬ v < a) && decide (¬ b < v)
theorem rg_1 {v a b : Int32} (h : ¬ v < a) (h2 : ¬ b < v) : (1 : Int32) = bI (rg v a b) := by unfold rg; rw [decide_eq_true h, decide_eq_true h2]; rfl
theorem rg_2 {v a b : Int32} (h2 : b < v) : (0 : Int32) = bI (rg v a b) := by unfold rg; rw [decide_eq_false (p := ¬ b < v) (fun z => z h2), Bool.and_false]; rfl
theorem rg_3 {v a b : Int32} (h : v < a) : (0 : Int32) = bI (rg v a b) := by unfold rg; rw [decide_eq_false (p := ¬ v < a) (fun z => z h), Bool.false_and]; rfl
/-- what of f stands at the places that have p, joined -/
def orf (p : Nat → Bool) (f : Nat → Int32) : Nat → Int32
  | 0 => 0
  | n + 1 => if p n = true then orf p f n ||| f n else orf p f n
theorem orf_t {p : Nat → Bool} {f : Nat → Int32} {n : Nat} (h : p n = true) : orf p f n ||| f n = orf p f (n + 1) := (if_pos h).symm
theorem orf_f {p : Nat → Bool} {f : Nat → Int32} {n : Nat} (h : p n = false) : orf p f n = orf p f (n + 1) := (if_neg (by rw [h]; decide)).symm
theorem orf_cong {p q : Nat → Bool} {f g : Nat → Int32} : ∀ n, (∀ k, k < n → p k = q k) → (∀ k, k < n → f k = g k) → orf p f n = orf q g n
  | 0, _, _ => rfl
  | n + 1, h, h2 => by
    show (if p n = true then orf p f n ||| f n else orf p f n) = if q n = true then orf q g n ||| g n else orf q g n
    rw [orf_cong n (fun k hk => h k (by omega)) (fun k hk => h2 k (by omega)), h n (by omega), h2 n (by omega)]
/-- all that were used in some night without a smudge -/
def cld (U : Nat → Int32) (Z : Nat → Bool) (n : Nat) : Int32 := orf (fun j => !(Z j)) U n
/-- some k below n has p -/
def anyb (p : Nat → Bool) : Nat → Bool
  | 0 => false
  | n + 1 => anyb p n || p n
theorem anyb_s {p : Nat → Bool} {n : Nat} (h : anyb p n = false) (h2 : p n = false) : anyb p (n + 1) = false := by
  show (anyb p n || p n) = false
  rw [h, h2]; rfl
theorem anyb_of {p : Nat → Bool} {i : Nat} (h : p i = true) : ∀ n, i < n → anyb p n = true
  | 0, hi => absurd hi (Nat.not_lt_zero i)
  | n + 1, hi => by
    show (anyb p n || p n) = true
    rcases Nat.lt_or_ge i n with z | z
    · rw [anyb_of h n z, Bool.true_or]
    · rw [show n = i by omega, h, Bool.or_true]
theorem anyb_cong {p q : Nat → Bool} : ∀ n, (∀ k, k < n → p k = q k) → anyb p n = anyb q n
  | 0, _ => rfl
  | n + 1, h => by
    show (anyb p n || p n) = (anyb q n || q n)
    rw [anyb_cong n (fun k hk => h k (by omega)), h n (by omega)]
/-- the sets that have p, met, from x0 on -/
def anf (p : Nat → Bool) (x0 : Int32) : Nat → Int32
  | 0 => x0
  | n + 1 => if p n = true then anf p x0 n &&& nI n else anf p x0 n
theorem anf_t {p : Nat → Bool} {x0 : Int32} {n : Nat} (h : p n = true) : anf p x0 n &&& nI n = anf p x0 (n + 1) := (if_pos h).symm
theorem anf_f {p : Nat → Bool} {x0 : Int32} {n : Nat} (h : p n = false) : anf p x0 n = anf p x0 (n + 1) := (if_neg (by rw [h]; decide)).symm
/-- the least of x0 and f -/
def mnf (f : Nat → Int32) (x0 : Int32) : Nat → Int32
  | 0 => x0
  | n + 1 => if f n < mnf f x0 n then f n else mnf f x0 n
theorem mnf_s (f : Nat → Int32) (x0 : Int32) (n : Nat) : (if f n < mnf f x0 n then f n else mnf f x0 n) = mnf f x0 (n + 1) := rfl
theorem mnf_cong {f g : Nat → Int32} {x0 : Int32} : ∀ n, (∀ k, k < n → f k = g k) → mnf f x0 n = mnf g x0 n
  | 0, _ => rfl
  | n + 1, h => by rw [← mnf_s, ← mnf_s, mnf_cong n (fun k hk => h k (by omega)), h n (by omega)]
/-- Integer.bitCount, step by step -/
def bc1 (x : Int32) : Int32 := x - ((x.toUInt32 >>> ((1 : Int32).toUInt32 &&& Int32.toUInt32 31)).toInt32 &&& 1431655765)
def bc2 (x : Int32) : Int32 := (x &&& 858993459) + ((x.toUInt32 >>> ((2 : Int32).toUInt32 &&& Int32.toUInt32 31)).toInt32 &&& 858993459)
def bc3 (x : Int32) : Int32 := (x + (x.toUInt32 >>> ((4 : Int32).toUInt32 &&& Int32.toUInt32 31)).toInt32) &&& 252645135
def bc4 (x : Int32) : Int32 := x + (x.toUInt32 >>> ((8 : Int32).toUInt32 &&& Int32.toUInt32 31)).toInt32
def bc5 (x : Int32) : Int32 := x + (x.toUInt32 >>> ((16 : Int32).toUInt32 &&& Int32.toUInt32 31)).toInt32
def bc (x : Int32) : Int32 := bc5 (bc4 (bc3 (bc2 (bc1 x)))) &&& 63
/-- the class's search for the simplest set: the set, its size -/
def spx (p : Nat → Bool) : Nat → Int32 × Int32
  | 0 => (-1, 9)
  | n + 1 => if p n = true ∧ bc (nI n) < (spx p n).2 then (nI n, bc (nI n)) else spx p n
theorem spx_t {p : Nat → Bool} {n : Nat} (h : p n = true) (h2 : ¬ (spx p n).2 ≤ bc (nI n)) : spx p (n + 1) = (nI n, bc (nI n)) := if_pos ⟨h, Int32.not_le.mp h2⟩
theorem spx_f {p : Nat → Bool} {n : Nat} (h : p n = false) : spx p (n + 1) = spx p n := if_neg (fun z => by rw [h] at z; exact absurd z.1 (by decide))
theorem spx_g {p : Nat → Bool} {n : Nat} (h2 : (spx p n).2 ≤ bc (nI n)) : spx p (n + 1) = spx p n := if_neg (fun z => absurd h2 (Int32.not_le.mpr z.2))
/-- the reference's search for the simplest set -/
def smm (p : Nat → Bool) : Nat → Int32
  | 0 => -1
  | n + 1 => if p n = true ∧ (smm p n = -1 ∨ bc (nI n) < bc (smm p n)) then nI n else smm p n
theorem smm_a {p : Nat → Bool} {n : Nat} (h : p n = true) (h2 : smm p n = -1) : nI n = smm p (n + 1) := (if_pos ⟨h, Or.inl h2⟩).symm
theorem smm_b {p : Nat → Bool} {n : Nat} (h : p n = true) (h2 : ¬ bc (smm p n) ≤ bc (nI n)) : nI n = smm p (n + 1) := (if_pos ⟨h, Or.inr (Int32.not_le.mp h2)⟩).symm
theorem smm_f {p : Nat → Bool} {n : Nat} (h : p n = false) : smm p n = smm p (n + 1) := (if_neg (fun z => by rw [h] at z; exact absurd z.1 (by decide))).symm
theorem smm_g {p : Nat → Bool} {n : Nat} (h1 : ¬ smm p n = -1) (h2 : bc (smm p n) ≤ bc (nI n)) : smm p n = smm p (n + 1) := (if_neg (fun z => z.2.elim h1 (fun z => absurd h2 (Int32.not_le.mpr z)))).symm
/-- the search for the best night: f k is what the night of the set k leaves at worst -/
def bn (f : Nat → Int32) : Nat → Int32 × Int32
  | 0 => (-1, 257)
  | n + 1 => if f (n + 1) < (bn f n).2 then (nI (n + 1), f (n + 1)) else bn f n
theorem bn_t {f : Nat → Int32} {n : Nat} (h : ¬ (bn f n).2 ≤ f (n + 1)) : bn f (n + 1) = (nI (n + 1), f (n + 1)) := if_pos (Int32.not_le.mp h)
theorem bn_f {f : Nat → Int32} {n : Nat} (h : (bn f n).2 ≤ f (n + 1)) : bn f (n + 1) = bn f n := if_neg (fun z => absurd h (Int32.not_le.mpr z))
def bm (f : Nat → Int32) : Nat → Int32 × Int32
  | 0 => (-1, 0)
  | n + 1 => if ¬ (bm f n).1 = -1 ∧ ¬ f (n + 1) < (bm f n).2 then bm f n else (nI (n + 1), f (n + 1))
theorem bm_a {f : Nat → Int32} {n : Nat} (h : (bm f n).1 = -1) : bm f (n + 1) = (nI (n + 1), f (n + 1)) := if_neg (fun z => z.1 h)
theorem bm_b {f : Nat → Int32} {n : Nat} (h : f (n + 1) < (bm f n).2) : bm f (n + 1) = (nI (n + 1), f (n + 1)) := if_neg (fun z => z.2 h)
theorem bm_f {f : Nat → Int32} {n : Nat} (h1 : ¬ (bm f n).1 = -1) (h : ¬ f (n + 1) < (bm f n).2) : bm f (n + 1) = bm f n := if_pos ⟨h1, h⟩
/-- the greater one -/
def mx (x y : Int32) : Int32 := if x < y then y else x
/-- how many sets that explain all nights meet u -/
def mt (U : Nat → Int32) (Z : Nat → Bool) (n N : Nat) (u : Int32) : Nat := ct (fun k => decide (¬ nI k &&& u = 0) && zz U Z n k) N
def ex (U : Nat → Int32) (Z : Nat → Bool) (n N : Nat) : Nat := ct (fun k => zz U Z n k) N
/-- the sum of the sizes of the sets that astronomers blame -/
def bsum (B : Nat → Int32) : Nat → Int32
  | 0 => 0
  | n + 1 => bsum B n + bc (B n)
theorem bsum_s (B : Nat → Int32) (n : Nat) : bsum B n + bc (B n) = bsum B (n + 1) := rfl
/-- f below i, g from i on -/
def mrg {α : Type} (f g : Nat → α) (i : Nat) : Nat → α := fun a => if a < i then f a else g a
theorem mrg_0 {α : Type} (f g : Nat → α) : mrg f g 0 = g := rfl
theorem mrg_at {α : Type} (f g : Nat → α) (i : Nat) : mrg f g i i = g i := if_neg (Nat.lt_irrefl i)
theorem mrg_s (f g : Nat → Int32) (i : Nat) {x : Int32} (h : x = f i) : upd (mrg f g i) i x = mrg f g (i + 1) := by
  funext a
  by_cases ha : a = i
  · subst ha
    rw [pk_us, h]
    exact (if_pos (Nat.lt_succ_self a)).symm
  · rw [pk_un ha]
    by_cases h2 : a < i
    · exact (if_pos h2).trans (if_pos (by omega : a < i + 1)).symm
    · exact (if_neg h2).trans (if_neg (by omega : ¬ a < i + 1)).symm
theorem mrg_k (f g : Nat → Int32) (i : Nat) (h : g i = f i) : mrg f g i = mrg f g (i + 1) := by
  funext a
  by_cases h2 : a < i
  · exact (if_pos h2).trans (if_pos (by omega : a < i + 1)).symm
  · by_cases h3 : a = i
    · subst h3
      exact (if_neg h2).trans (h.trans (if_pos (Nat.lt_succ_self a)).symm)
    · exact (if_neg h2).trans (if_neg (by omega : ¬ a < i + 1)).symm
/-- what lies behind night g moves up, as far as i -/
def shf {α : Type} (f : Nat → α) (g i : Nat) : Nat → α := fun j => if g ≤ j ∧ j < i then f (j + 1) else f j
theorem shf_0 {α : Type} (f : Nat → α) (g : Nat) : shf f g g = f := by
  funext j
  exact if_neg (by omega)
theorem shf_at {α : Type} (f : Nat → α) (g i : Nat) : shf f g i (i + 1) = f (i + 1) := if_neg (by omega)
theorem shf_s (f : Nat → Int32) {g i : Nat} (hg : g ≤ i) {x : Int32} (h : x = f (i + 1)) : upd (shf f g i) i x = shf f g (i + 1) := by
  funext j
  by_cases hj : j = i
  · subst hj
    rw [pk_us, h]
    exact (if_pos ⟨hg, Nat.lt_succ_self j⟩).symm
  · rw [pk_un hj]
    by_cases h2 : g ≤ j ∧ j < i
    · exact (if_pos h2).trans (if_pos (by omega : g ≤ j ∧ j < i + 1)).symm
    · exact (if_neg h2).trans (if_neg (by omega : ¬ (g ≤ j ∧ j < i + 1))).symm
theorem shf_bI (f : Nat → Bool) (g i : Nat) : shf (fun j => bI (f j)) g i = fun j => bI (shf f g i j) := by
  funext j
  by_cases h2 : g ≤ j ∧ j < i
  · exact (if_pos h2).trans (congrArg bI (if_pos h2).symm)
  · exact (if_neg h2).trans (congrArg bI (if_neg h2).symm)
def updB (f : Nat → Bool) (k : Nat) (b : Bool) : Nat → Bool := fun j => if j = k then b else f j
theorem updB_bI (f : Nat → Bool) (k : Nat) (b : Bool) : upd (fun j => bI (f j)) k (bI b) = fun j => bI (updB f k b j) := by
  funext j
  by_cases h : j = k
  · subst h
    rw [pk_us]
    exact congrArg bI (if_pos rfl).symm
  · rw [pk_un h]
    exact congrArg bI (if_neg h).symm
/-- what a night does to an astronomer who blames b, with stubbornness v of f, where e is the simplest set -/
def sB (B L : Nat → Int32) (u : Int32) (z : Bool) (e : Int32) (a : Nat) : Int32 := if sx (B a) u z = true then B a else if ¬ L a ≤ 0 then B a else if e = -1 then B a else e
def sL (B L F : Nat → Int32) (u : Int32) (z : Bool) (e : Int32) (a : Nat) : Int32 := if sx (B a) u z = true then L a else if ¬ L a ≤ 0 then L a - 1 else if e = -1 then L a else F a
def sC (B L : Nat → Int32) (u : Int32) (z : Bool) (e : Int32) (a : Nat) : Bool := !(sx (B a) u z) && decide (L a ≤ 0) && decide (¬ e = -1)
/-- the nights' misses of every set, with one more night (or one less) -/
def cM (M : Nat → Int32) (u : Int32) (z : Bool) (st : Int32) (k : Nat) : Int32 := if sx (nI k) u z = true then M k else M k + st
/-- a checksum's step, and many of them -/
def mix (d x : Int64) : Int64 := d * 31 + x
def dfo (g : Nat → Int64 → Int64) (d : Int64) : Nat → Int64
  | 0 => d
  | n + 1 => g n (dfo g d n)
theorem dfo_cong {f g : Nat → Int64 → Int64} {d : Int64} : ∀ n, (∀ k x, k < n → f k x = g k x) → dfo f d n = dfo g d n
  | 0, _ => rfl
  | n + 1, h => by
    show f n (dfo f d n) = g n (dfo g d n)
    rw [dfo_cong n (fun k x hk => h k x (by omega)), h n _ (by omega)]
/-- loops' ends -/
theorem gd_ge_t {i N : Nat} (hN : N < 2 ^ 31) (hi : i ≤ N) (c : nI N ≤ nI i) : i = N := by
  have h := (nI_leI (a := N) (b := i) hN (by omega)).mp c
  omega
theorem gd_ge_f {i N : Nat} (hi : i ≤ N) (c : ¬ nI N ≤ nI i) : i < N := by
  rcases Nat.lt_or_ge i N with h | h
  · exact h
  · rw [show i = N by omega] at c
    exact absurd (Int32.le_refl _) c
def pw (tc : Nat) : Nat := 2 ^ tc
theorem pw_in {tc : Nat} (h : tc ≤ 8) : 1 ≤ pw tc ∧ pw tc ≤ 256 := by
  have h1 : pw tc ≤ 2 ^ 8 := Nat.pow_le_pow_right (by decide) h
  have h2 : 0 < pw tc := Nat.pow_pos (by decide)
  omega
theorem all_eq {tc : Nat} (h : tc ≤ 8) : ((1 : Int32) <<< (nI tc &&& 31)) - 1 = nI (pw tc - 1) := by
  have k : ∀ t, t < 9 → ((1 : Int32) <<< (nI t &&& 31)) - 1 = nI (2 ^ t - 1) := by decide +kernel
  exact k tc (by omega)
theorem gd_gt_t {i tc : Nat} (ht : tc ≤ 8) (hi : i ≤ pw tc) (c : nI (pw tc - 1) < nI i) : i = pw tc := by
  have h := pw_in ht
  have h2 := (nI_ltI (a := pw tc - 1) (b := i) (by omega) (by omega)).mp c
  omega
theorem gd_gt_f {i tc : Nat} (ht : tc ≤ 8) (hi : i ≤ pw tc) (c : ¬ nI (pw tc - 1) < nI i) : i < pw tc := by
  have h := pw_in ht
  rcases Nat.lt_or_ge i (pw tc) with z | z
  · exact z
  · exact absurd (nI_lt (a := pw tc - 1) (b := i) (by omega) (by omega)) c
theorem and255 {k : Nat} (h : k < 256) : nI k &&& 255 = nI k := by
  have q : ∀ t, t < 256 → nI t &&& 255 = nI t := by decide +kernel
  exact q k h
end PURE
end
section
/-! ===== rows of our own over the kit's: calls that read, calls that write, throws, loops; the worlds of the two classes ===== -/
section BASE
theorem va_D_re {A : Nat → Prop} {w w' : va_W} (h : va_D A w) (e : w'.map (fun q => q.1) = w.map (fun q => q.1)) : va_D A w' := by
  have key : ∀ (k : Nat) (q : Nat × va_E), w'[k]? = some q → ∃ q0, w[k]? = some q0 ∧ q0.1 = q.1 := by
    intro k q hk
    have h1 : (w.map (fun q => q.1))[k]? = some q.1 := by rw [← e, List.getElem?_map, hk]; rfl
    rw [List.getElem?_map] at h1
    cases h2 : w[k]? with
    | none => rw [h2] at h1; cases h1
    | some q0 => rw [h2] at h1; exact ⟨q0, rfl, Option.some.inj h1⟩
  refine ⟨fun i j x y hi hj hxy => ?_, fun k q hk => ?_⟩
  · obtain ⟨x0, h1, h2⟩ := key i x hi
    obtain ⟨y0, h3, h4⟩ := key j y hj
    exact h.1 i j x0 y0 h1 h3 (h2.trans (hxy.trans h4.symm))
  · obtain ⟨q0, h1, h2⟩ := key k q hk
    rw [← h2]
    exact h.2 k q0 h1
theorem va_free_all {A : Nat → Prop} {w : va_W} {H0 H : Heap} {locs : List Loc} (hD : va_D A w) (hS : va_S A H0 H locs) (hA : ∀ q, H0.size ≤ q → A q) : ∀ q, va_A w H.size q → A q := by
  intro q h
  rcases h with ⟨k, e, h⟩ | h
  · exact hD.2 k (q, e) h
  · exact hA q (Nat.le_trans hS.1 h)
theorem arr_cong {cA : ClassId} {n : Nat} {f g : Nat → Int32} (h : ∀ j, j < n → f j = g j) : vp_cell cA (n, .inl f) = vp_cell cA (n, .inl g) := by
  rw [vp_cell_i, vp_cell_i]
  unfold arrV
  congr 2
  funext j
  show Value.int (f j.val) = Value.int (g j.val)
  rw [h j.val j.isLt]
/-- a row of a world under another name that agrees on its length -/
theorem va_P_arr {D : va_G} {cl : List vw_C} {w : va_W} {H : Heap} (h : va_P D cl w H) (k : Nat) {a : Nat} {cA : ClassId} {n : Nat} {f g : Nat → Int32} (hk : w[k]? = some (a, .inl (cA, n, .inl f))) (hfg : ∀ j, j < n → f j = g j) : va_P D cl (w.set k (a, .inl (cA, n, .inl g))) H := by
  have hl := (List.getElem?_eq_some_iff.mp hk).1
  intro i q hi
  by_cases hik : i = k
  · subst hik
    rw [List.getElem?_set_self hl] at hi
    cases hi
    have h1 : H[a]? = some (vp_cell cA (n, .inl f)) := h i _ hk
    show H[a]? = some (vp_cell cA (n, .inl g))
    rw [h1, arr_cong hfg]
  · rw [List.getElem?_set_ne (Ne.symm hik)] at hi
    exact h i q hi
abbrev rd (D : va_G) (cl : List vw_C) (tys : List (ClassId × FieldType)) (H : Heap) : State → Prop := fun U => U.heap = H ∧ va_K D cl tys U
theorem rd_blind {D : va_G} {cl : List vw_C} {tys : List (ClassId × FieldType)} {H : Heap} {av : List Value} : FrameBlind (va_Pc av (rd D cl tys H)) := by
  intro a U g mk q
  obtain ⟨q1, q2, q3⟩ := q
  exact ⟨q1, q2, va_K.moved (u := U) (U := U.calling g mk a) (Vm.Alike.refl U.vm) q3⟩
/-! what a throw needs of the start -/
abbrev EIS : String := "java/lang/IllegalStateException"
abbrev EIA : String := "java/lang/IllegalArgumentException"
abbrev EIO : String := "java/lang/IndexOutOfBoundsException"
abbrev xnames : List String := ["java/lang/RuntimeException", "java/lang/Exception"]
def xNL : List Cond := (vx_atS RX0 46 EIS xnames).filter (fun w => !goodWord w) ++ ((vx_atS RX0 53 EIA xnames).filter (fun w => !goodWord w) ++ (vx_atS RX0 191 EIO xnames).filter (fun w => !goodWord w))
def xkind : Cond → Bool
  | .castable .. => true
  | .declares _ => true
  | _ => false
theorem xNL_kind : xNL.all xkind = true := by decide +kernel
theorem xw_moved {w : Cond} (hk : xkind w = true) {u U : State} (hvm : u.vm.Alike U.vm) (h : w.before #[] u = true) : w.before #[] U = true := by
  cases w <;> first
    | exact va_tabs rfl (rfl : (u.setVm U.vm).vm = U.vm) (by rw [Cond.castable_setVm hvm]; exact h)
    | exact va_tabs rfl (rfl : (u.setVm U.vm).vm = U.vm) (by rw [Cond.declares_setVm hvm]; exact h)
    | exact absurd hk (by decide)
    | simp [xkind] at hk
theorem xw_any {w : Cond} (hk : xkind w = true) {U : State} {a : Array Value} (h : w.before #[] U = true) : w.before a U = true := by
  cases w <;> first
    | exact va_tabs rfl rfl h
    | exact absurd hk (by decide)
    | simp [xkind] at hk
def strL : List (Nat × String) := [(44, "there are 8 things"), (51, "stubbornness is not 0 to 5"), (54, "there are 8 astronomers"), (189, "there is no such thing"), (192, "there is no such night"), (194, "there is no such astronomer"), (196, "things is not 0 to the set of all things"), (198, "things is not 1 to the set of all things"), (200, "there are 40 nights")]
def xE (U : State) (H : Heap) : Prop := vx_Zq Bundle.tN "UNASSIGNED_STACK" Bundle.steD (fun _ => False) U H ∧ vx_Zq Bundle.tN "SUPPRESSED_SENTINEL" Bundle.listD (fun _ => False) U H ∧ (∀ w ∈ xNL, w.before #[] U = true) ∧ (∀ q ∈ strL, ∃ sa, vk_R RX0 q.1 q.2 sa U) ∧ va_Nc EIS EIA U ∧ va_Nc EIA EIO U
theorem xE_go {s U : State} {H : Heap} (hW : s.WarmedH U.vm) (h : xE s H) : xE U H := by
  obtain ⟨h1, h2, h3, h4, h5, h6⟩ := h
  refine ⟨vx_Zq.moved hW.alike h1, vx_Zq.moved hW.alike h2, fun w hw => xw_moved (List.all_eq_true.mp xNL_kind w hw) hW.alike (h3 w hw), fun q hq => ?_, h5.moved hW.alike, h6.moved hW.alike⟩
  obtain ⟨sa, h⟩ := h4 q hq
  exact ⟨sa, vk_R.warm hW h⟩
theorem xE_kept {s : State} {H H1 : Heap} {A : Nat → Prop} {locs : List Loc} (hU : vx_Zq Bundle.tN "UNASSIGNED_STACK" Bundle.steD A s H) (hN : vx_Zq Bundle.tN "SUPPRESSED_SENTINEL" Bundle.listD A s H) (h3 : ∀ w ∈ xNL, w.before #[] s = true) (h4 : ∀ q ∈ strL, ∃ sa, vk_R RX0 q.1 q.2 sa s) (h5 : va_Nc EIS EIA s) (h6 : va_Nc EIA EIO s) (hS : va_S A H H1 locs) : xE s H1 :=
  ⟨(hU.kept hS.2.1).narrow (fun _ h => h.elim), (hN.kept hS.2.1).narrow (fun _ h => h.elim), h3, h4, h5, h6⟩
abbrev rdx (D : va_G) (cl : List vw_C) (tys : List (ClassId × FieldType)) (H : Heap) : State → Prop := fun U => U.heap = H ∧ va_K D cl tys U ∧ xE U H
theorem rdx_blind {D : va_G} {cl : List vw_C} {tys : List (ClassId × FieldType)} {H : Heap} {av : List Value} : FrameBlind (va_Pc av (rdx D cl tys H)) := by
  intro a U g mk q
  obtain ⟨q1, q2, q3, q4⟩ := q
  exact ⟨q1, q2, va_K.moved (u := U) (U := U.calling g mk a) (Vm.Alike.refl U.vm) q3, xE_go (s := U) (U := U.calling g mk a) (State.WarmedH.refl U) q4⟩
/-- it throws E0, and changes nothing -/
abbrev xX (E0 : String) : String → State → State → Prop := vx_X (fun _ : Unit => True) (fun E _ _ => E = E0) (fun _ => False)
abbrev xno : Array Value → State → Outcome → State → Prop := fun _ _ _ _ => False
section CALLS
variable {p : Program} {l : Launch} {e : Env} {R : Room} {s : State} {m : MethodId} {args : Array Value} {below : List Frame} {meth : Method} {c : Code} {H : Heap} {locs : List Loc} {cells slots : Nat} {Q : State → Prop}
variable {cc bytes : ByteArray} {pc nL maxL n index : Nat} {ls : Array Slot} {rest st0 As : List Value} {ret : Option FieldType} {ws : List Cond} {rm : Room} {own C : String} {b : Addr} {Ts : List Cond} {y : MethodName} {D : va_G} {cl : List vw_C} {tys : List (ClassId × FieldType)}
theorem rd_pre {av : List Value} (hK : va_K D cl tys s) : ∀ U : State, U.heap = H → s.WarmedH U.vm → va_Pc av (rd D cl tys H) av.toArray U := fun U hU hW => ⟨rfl, hU, va_K.moved hW.alike hK⟩
theorem rdx_pre {av : List Value} (hK : va_K D cl tys s) (hE : xE s H) : ∀ U : State, U.heap = H → s.WarmedH U.vm → va_Pc av (rdx D cl tys H) av.toArray U := fun U hU hW => ⟨rfl, hU, va_K.moved hW.alike hK, xE_go hW hE⟩
theorem lv_cst {x y : Int32} (h : x = y) (k : W p l e R s m args below meth c H locs cells slots Q (F0 m pc ls (.int y :: rest))) : W p l e R s m args below meth c H locs cells slots Q (F0 m pc ls (.int x :: rest)) := by rw [h]; exact k
theorem lv_cstl {x y : Int64} (h : x = y) (k : W p l e R s m args below meth c H locs cells slots Q (F0 m pc ls (.long y :: rest))) : W p l e R s m args below meth c H locs cells slots Q (F0 m pc ls (.long x :: rest)) := by rw [h]; exact k
theorem lv_ifb_eq (hx : p.tables.exec = Jvm.exec) (hb : c.code = cc) {x : Bool} {off : Int} {tgt : Nat} (hdg : decode cc pc = .ok (.ifCond .eq off, 3)) (ht : (pc : Int) + off = (tgt : Int))
    (kt : x = false → W p l e R s m args below meth c H locs cells slots Q (F0 m tgt ls rest)) (kf : x = true → W p l e R s m args below meth c H locs cells slots Q (F0 m (pc + 3) ls rest)) : W p l e R s m args below meth c H locs cells slots Q (F0 m pc ls (.int (bI x) :: rest)) :=
  lv_if_eq hx hb hdg ht (fun h => kt (bI_z h)) (fun h => kf (bI_nz h))
theorem lv_ifb_ne (hx : p.tables.exec = Jvm.exec) (hb : c.code = cc) {x : Bool} {off : Int} {tgt : Nat} (hdg : decode cc pc = .ok (.ifCond .ne off, 3)) (ht : (pc : Int) + off = (tgt : Int))
    (kt : x = true → W p l e R s m args below meth c H locs cells slots Q (F0 m tgt ls rest)) (kf : x = false → W p l e R s m args below meth c H locs cells slots Q (F0 m (pc + 3) ls rest)) : W p l e R s m args below meth c H locs cells slots Q (F0 m pc ls (.int (bI x) :: rest)) :=
  lv_if_ne hx hb hdg ht (fun h => kt (bI_nz h)) (fun h => kf (bI_z h))
/-- rows at the place nI j -/
theorem ia_ld (hx : p.tables.exec = Jvm.exec) (hb : c.code = cc) {w : va_W} {a : Nat} (hK : va_K D cl tys s) (hP : va_P D cl w H) (q0 t0 : Nat) {cA : ClassId} {n : Nat} {f : Nat → Int32} (ha : w[q0]? = some (a, .inl (cA, n, .inl f))) (ht : tys[t0]? = some (cA, .int)) {j : Nat} (hj : j < n) (hn : n ≤ 256) (hdg : decode cc pc = .ok (.iaload, 1))
    (kk : W p l e R s m args below meth c H locs cells slots Q (F0 m (pc + 1) ls (.int (f j) :: rest))) : W p l e R s m args below meth c H locs cells slots Q (F0 m pc ls (.int (nI j) :: .ref a :: rest)) :=
  va_iald hx hb hK hP q0 t0 ha ht (vp_in_nI hj (by omega)) hdg (by rw [nI_clamp (by omega)]; exact kk)
theorem za_ld (hx : p.tables.exec = Jvm.exec) (hb : c.code = cc) {w : va_W} {a : Nat} (hK : va_K D cl tys s) (hP : va_P D cl w H) (q0 t0 : Nat) {cA : ClassId} {n : Nat} {f : Nat → Bool} (ha : w[q0]? = some (a, .inl (cA, n, .inl (fun j => bI (f j))))) (ht : tys[t0]? = some (cA, .boolean)) {j : Nat} (hj : j < n) (hn : n ≤ 256) (hdg : decode cc pc = .ok (.baload, 1))
    (kk : W p l e R s m args below meth c H locs cells slots Q (F0 m (pc + 1) ls (.int (bI (f j)) :: rest))) : W p l e R s m args below meth c H locs cells slots Q (F0 m pc ls (.int (nI j) :: .ref a :: rest)) :=
  va_zald hx hb hK hP q0 t0 ha ht (vp_in_nI hj (by omega)) hdg (by rw [nI_clamp (by omega)]; exact kk)
theorem ia_st (hx : p.tables.exec = Jvm.exec) (hb : c.code = cc) {w : va_W} {a : Nat} {A : Nat → Prop} {H0 : Heap} (hK : va_K D cl tys s) (hP : va_P D cl w H) (hD : va_D A w) (hS : va_S A H0 H locs) (q0 t0 : Nat) {cA : ClassId} {n : Nat} {f : Nat → Int32} (ha : w[q0]? = some (a, .inl (cA, n, .inl f))) (ht : tys[t0]? = some (cA, .int)) {j : Nat} {x : Int32} (hj : j < n) (hn : n ≤ 256) (hdg : decode cc pc = .ok (.iastore, 1))
    (kk : ∀ (H1 : Heap) (locs1 : List Loc), va_P D cl (w.set q0 (a, .inl (cA, n, .inl (upd f j x)))) H1 → va_S A H0 H1 locs1 → W p l e R s m args below meth c H1 locs1 cells slots Q (F0 m (pc + 1) ls rest)) : W p l e R s m args below meth c H locs cells slots Q (F0 m pc ls (.int x :: .int (nI j) :: .ref a :: rest)) :=
  va_iast hx hb hK hP hD hS q0 t0 ha ht (vp_in_nI hj (by omega)) hdg (fun H1 l1 h1 _ h3 => kk H1 l1 (by rw [nI_clamp (by omega)] at h1; exact h1) h3)
theorem za_st (hx : p.tables.exec = Jvm.exec) (hb : c.code = cc) {w : va_W} {a : Nat} {A : Nat → Prop} {H0 : Heap} (hK : va_K D cl tys s) (hP : va_P D cl w H) (hD : va_D A w) (hS : va_S A H0 H locs) (q0 t0 : Nat) {cA : ClassId} {n : Nat} {f : Nat → Bool} (ha : w[q0]? = some (a, .inl (cA, n, .inl (fun j => bI (f j))))) (ht : tys[t0]? = some (cA, .boolean)) {j : Nat} {x : Bool} (hj : j < n) (hn : n ≤ 256) (hdg : decode cc pc = .ok (.bastore, 1))
    (kk : ∀ (H1 : Heap) (locs1 : List Loc), va_P D cl (w.set q0 (a, .inl (cA, n, .inl (fun k => bI (updB f j x k))))) H1 → va_S A H0 H1 locs1 → W p l e R s m args below meth c H1 locs1 cells slots Q (F0 m (pc + 1) ls rest)) : W p l e R s m args below meth c H locs cells slots Q (F0 m pc ls (.int (bI x) :: .int (nI j) :: .ref a :: rest)) :=
  va_zast hx hb hK hP hD hS q0 t0 ha ht (vp_in_nI hj (by omega)) hdg (fun H1 l1 h1 _ h3 => kk H1 l1 (by rw [nI_clamp (by omega), bI_vnar, updB_bI] at h1; exact h1) h3)
/-- calls that read -/
theorem pcV_i {v : Int32} (S : CallFix p m c cc nL s args Ts own) (hM : Met l y ws rm (va_Pc (.ref b :: As) (rd D cl tys H)) (vp_Si (fun r => r = v)) 0 0 (fun _ => False)) (cw : CallW R s args own C index y bytes maxL ret ws rm 0 0 n) (hr : ∃ cellB : Cell, H[b]? = some cellB ∧ cellB.vm.isStatics = false ∧ s.vm.findClass C = some cellB.cls) (hK : va_K D cl tys s) (hn : As.length = n) (hsz : ls.size = nL) (hW : (rest.map fun v => v.category).sum ≤ 8) (hst : st0 = As.reverse ++ .ref b :: rest) (hdg : decode cc pc = .ok (.invokevirtual index, 3)) (hf : cells ≤ R.cells ∧ slots ≤ R.slots)
    (kk : W p l e R s m args below meth c H locs cells slots Q (F0 m (pc + 3) ls (.int v :: rest))) : W p l e R s m args below meth c H locs cells slots Q (F0 m pc ls st0) :=
  vp_callSi (W.runV (As := As) (rest := rest) S hM cw ⟨rd_blind, hr, rd_pre hK⟩ rfl hn hsz hst (lv_room hW) hdg hf) (fun r hrv => by subst hrv; exact kk)
theorem pcV_l {v : Int64} (S : CallFix p m c cc nL s args Ts own) (hM : Met l y ws rm (va_Pc (.ref b :: As) (rd D cl tys H)) (vp_Sl (fun r => r = v)) 0 0 (fun _ => False)) (cw : CallW R s args own C index y bytes maxL ret ws rm 0 0 n) (hr : ∃ cellB : Cell, H[b]? = some cellB ∧ cellB.vm.isStatics = false ∧ s.vm.findClass C = some cellB.cls) (hK : va_K D cl tys s) (hn : As.length = n) (hsz : ls.size = nL) (hW : (rest.map fun v => v.category).sum ≤ 8) (hst : st0 = As.reverse ++ .ref b :: rest) (hdg : decode cc pc = .ok (.invokevirtual index, 3)) (hf : cells ≤ R.cells ∧ slots ≤ R.slots)
    (kk : W p l e R s m args below meth c H locs cells slots Q (F0 m (pc + 3) ls (.long v :: rest))) : W p l e R s m args below meth c H locs cells slots Q (F0 m pc ls st0) :=
  vp_callSl (W.runV (As := As) (rest := rest) S hM cw ⟨rd_blind, hr, rd_pre hK⟩ rfl hn hsz hst (lv_room hW) hdg hf) (fun r hrv => by subst hrv; exact kk)
theorem pcV_d {v : UInt64} (S : CallFix p m c cc nL s args Ts own) (hM : Met l y ws rm (va_Pc (.ref b :: As) (rd D cl tys H)) (vp_Sd (fun r => r = v)) 0 0 (fun _ => False)) (cw : CallW R s args own C index y bytes maxL ret ws rm 0 0 n) (hr : ∃ cellB : Cell, H[b]? = some cellB ∧ cellB.vm.isStatics = false ∧ s.vm.findClass C = some cellB.cls) (hK : va_K D cl tys s) (hn : As.length = n) (hsz : ls.size = nL) (hW : (rest.map fun v => v.category).sum ≤ 8) (hst : st0 = As.reverse ++ .ref b :: rest) (hdg : decode cc pc = .ok (.invokevirtual index, 3)) (hf : cells ≤ R.cells ∧ slots ≤ R.slots)
    (kk : W p l e R s m args below meth c H locs cells slots Q (F0 m (pc + 3) ls (.double v :: rest))) : W p l e R s m args below meth c H locs cells slots Q (F0 m pc ls st0) :=
  vp_callSd (W.runV (As := As) (rest := rest) S hM cw ⟨rd_blind, hr, rd_pre hK⟩ rfl hn hsz hst (lv_room hW) hdg hf) (fun r hrv => by subst hrv; exact kk)
theorem pcV_v (S : CallFix p m c cc nL s args Ts own) (hM : Met l y ws rm (va_Pc (.ref b :: As) (rd D cl tys H)) (va_Sv (fun _ => True)) 0 0 (fun _ => False)) (cw : CallW R s args own C index y bytes maxL ret ws rm 0 0 n) (hr : ∃ cellB : Cell, H[b]? = some cellB ∧ cellB.vm.isStatics = false ∧ s.vm.findClass C = some cellB.cls) (hK : va_K D cl tys s) (hn : As.length = n) (hsz : ls.size = nL) (hW : (rest.map fun v => v.category).sum ≤ 8) (hst : st0 = As.reverse ++ .ref b :: rest) (hdg : decode cc pc = .ok (.invokevirtual index, 3)) (hf : cells ≤ R.cells ∧ slots ≤ R.slots)
    (kk : W p l e R s m args below meth c H locs cells slots Q (F0 m (pc + 3) ls rest)) : W p l e R s m args below meth c H locs cells slots Q (F0 m pc ls st0) :=
  va_csv (W.runV (As := As) (rest := rest) S hM cw ⟨rd_blind, hr, rd_pre hK⟩ rfl hn hsz hst (lv_room hW) hdg hf) (fun _ => kk)
theorem st_blind {av : List Value} : FrameBlind (va_Pc av (fun _ => True)) := fun _ _ _ _ q => q
theorem pcS_i {v : Int32} (S : CallFix p m c cc nL s args Ts own) (hM : Met l y ws rm (va_Pc As (fun _ => True)) (vp_Si (fun r => r = v)) 0 0 (fun _ => False)) (cw : CallB R s args own index y bytes maxL ret ws rm 0 0 n ∧ (Cond.static y).before args s = true) (hn : As.length = n) (hsz : ls.size = nL) (hW : (rest.map fun v => v.category).sum ≤ 8) (hst : st0 = As.reverse ++ rest) (hdg : decode cc pc = .ok (.invokestatic index, 3)) (hf : cells ≤ R.cells ∧ slots ≤ R.slots)
    (kk : W p l e R s m args below meth c H locs cells slots Q (F0 m (pc + 3) ls (.int v :: rest))) : W p l e R s m args below meth c H locs cells slots Q (F0 m pc ls st0) :=
  vp_callSi (W.runS (As := As) (rest := rest) S hM cw ⟨st_blind, fun U hU hW => ⟨rfl, trivial⟩⟩ rfl hn hsz hst (lv_room hW) hdg hf) (fun r hrv => by subst hrv; exact kk)
theorem pcS_l {v : Int64} (S : CallFix p m c cc nL s args Ts own) (hM : Met l y ws rm (va_Pc As (fun _ => True)) (vp_Sl (fun r => r = v)) 0 0 (fun _ => False)) (cw : CallB R s args own index y bytes maxL ret ws rm 0 0 n ∧ (Cond.static y).before args s = true) (hn : As.length = n) (hsz : ls.size = nL) (hW : (rest.map fun v => v.category).sum ≤ 8) (hst : st0 = As.reverse ++ rest) (hdg : decode cc pc = .ok (.invokestatic index, 3)) (hf : cells ≤ R.cells ∧ slots ≤ R.slots)
    (kk : W p l e R s m args below meth c H locs cells slots Q (F0 m (pc + 3) ls (.long v :: rest))) : W p l e R s m args below meth c H locs cells slots Q (F0 m pc ls st0) :=
  vp_callSl (W.runS (As := As) (rest := rest) S hM cw ⟨st_blind, fun U hU hW => ⟨rfl, trivial⟩⟩ rfl hn hsz hst (lv_room hW) hdg hf) (fun r hrv => by subst hrv; exact kk)
/-- calls that write: the world w becomes w1 -/
theorem wcV_i {v : Int32} {w w1 : va_W} {A : Nat → Prop} {H0 : Heap} {mc ms : Nat} (S : CallFix p m c cc nL s args Ts own) (hM : Met l y ws rm (va_Pc (.ref b :: As) (rd D cl tys H)) (va_Qi (fun r (_ : Unit) => r = v) (fun _ t => va_P D cl w1 t.heap) (va_A w H.size)) mc ms (va_A w H.size)) (cw : CallW R s args own C index y bytes maxL ret ws rm mc ms n) (hr : ∃ cellB : Cell, H[b]? = some cellB ∧ cellB.vm.isStatics = false ∧ s.vm.findClass C = some cellB.cls) (hK : va_K D cl tys s) (hS : va_S A H0 H locs) (hF : ∀ q, va_A w H.size q → A q) (hn : As.length = n) (hsz : ls.size = nL) (hW : (rest.map fun v => v.category).sum ≤ 8) (hst : st0 = As.reverse ++ .ref b :: rest) (hdg : decode cc pc = .ok (.invokevirtual index, 3)) (hf : cells + mc ≤ R.cells ∧ slots + ms ≤ R.slots)
    (kk : ∀ (H1 : Heap) (locs1 : List Loc), va_P D cl w1 H1 → H.size ≤ H1.size → (∀ q : Nat, q < H.size → ¬ va_A w H.size q → H1[q]? = H[q]?) → va_S A H0 H1 locs1 → W p l e R s m args below meth c H1 locs1 (cells + mc) (slots + ms) Q (F0 m (pc + 3) ls (.int v :: rest))) : W p l e R s m args below meth c H locs cells slots Q (F0 m pc ls st0) :=
  va_calli (va_runV (As := As) (rest := rest) S hM cw ⟨rd_blind, hr, rd_pre hK⟩ rfl hn hsz hst (lv_room hW) hdg hf) hS (fun q _ h => hF q h) hF (fun r u t H1 locs1 ht hvm hw hB hz1 hk1 hS1 => by subst hw; exact kk H1 locs1 (by rw [← ht]; exact hB) hz1 hk1 hS1)
theorem wcV_l {v : Int64} {w w1 : va_W} {A : Nat → Prop} {H0 : Heap} {mc ms : Nat} (S : CallFix p m c cc nL s args Ts own) (hM : Met l y ws rm (va_Pc (.ref b :: As) (rd D cl tys H)) (va_Ql (fun r (_ : Unit) => r = v) (fun _ t => va_P D cl w1 t.heap) (va_A w H.size)) mc ms (va_A w H.size)) (cw : CallW R s args own C index y bytes maxL ret ws rm mc ms n) (hr : ∃ cellB : Cell, H[b]? = some cellB ∧ cellB.vm.isStatics = false ∧ s.vm.findClass C = some cellB.cls) (hK : va_K D cl tys s) (hS : va_S A H0 H locs) (hF : ∀ q, va_A w H.size q → A q) (hn : As.length = n) (hsz : ls.size = nL) (hW : (rest.map fun v => v.category).sum ≤ 8) (hst : st0 = As.reverse ++ .ref b :: rest) (hdg : decode cc pc = .ok (.invokevirtual index, 3)) (hf : cells + mc ≤ R.cells ∧ slots + ms ≤ R.slots)
    (kk : ∀ (H1 : Heap) (locs1 : List Loc), va_P D cl w1 H1 → H.size ≤ H1.size → (∀ q : Nat, q < H.size → ¬ va_A w H.size q → H1[q]? = H[q]?) → va_S A H0 H1 locs1 → W p l e R s m args below meth c H1 locs1 (cells + mc) (slots + ms) Q (F0 m (pc + 3) ls (.long v :: rest))) : W p l e R s m args below meth c H locs cells slots Q (F0 m pc ls st0) :=
  va_calll (va_runV (As := As) (rest := rest) S hM cw ⟨rd_blind, hr, rd_pre hK⟩ rfl hn hsz hst (lv_room hW) hdg hf) hS (fun q _ h => hF q h) hF (fun r u t H1 locs1 ht hvm hw hB hz1 hk1 hS1 => by subst hw; exact kk H1 locs1 (by rw [← ht]; exact hB) hz1 hk1 hS1)
theorem wcV_d {v : UInt64} {w w1 : va_W} {A : Nat → Prop} {H0 : Heap} {mc ms : Nat} (S : CallFix p m c cc nL s args Ts own) (hM : Met l y ws rm (va_Pc (.ref b :: As) (rd D cl tys H)) (va_Qd (fun r (_ : Unit) => r = v) (fun _ t => va_P D cl w1 t.heap) (va_A w H.size)) mc ms (va_A w H.size)) (cw : CallW R s args own C index y bytes maxL ret ws rm mc ms n) (hr : ∃ cellB : Cell, H[b]? = some cellB ∧ cellB.vm.isStatics = false ∧ s.vm.findClass C = some cellB.cls) (hK : va_K D cl tys s) (hS : va_S A H0 H locs) (hF : ∀ q, va_A w H.size q → A q) (hn : As.length = n) (hsz : ls.size = nL) (hW : (rest.map fun v => v.category).sum ≤ 8) (hst : st0 = As.reverse ++ .ref b :: rest) (hdg : decode cc pc = .ok (.invokevirtual index, 3)) (hf : cells + mc ≤ R.cells ∧ slots + ms ≤ R.slots)
    (kk : ∀ (H1 : Heap) (locs1 : List Loc), va_P D cl w1 H1 → H.size ≤ H1.size → (∀ q : Nat, q < H.size → ¬ va_A w H.size q → H1[q]? = H[q]?) → va_S A H0 H1 locs1 → W p l e R s m args below meth c H1 locs1 (cells + mc) (slots + ms) Q (F0 m (pc + 3) ls (.double v :: rest))) : W p l e R s m args below meth c H locs cells slots Q (F0 m pc ls st0) :=
  va_calld (va_runV (As := As) (rest := rest) S hM cw ⟨rd_blind, hr, rd_pre hK⟩ rfl hn hsz hst (lv_room hW) hdg hf) hS (fun q _ h => hF q h) hF (fun r u t H1 locs1 ht hvm hw hB hz1 hk1 hS1 => by subst hw; exact kk H1 locs1 (by rw [← ht]; exact hB) hz1 hk1 hS1)
theorem wcV_v {w w1 : va_W} {A : Nat → Prop} {H0 : Heap} {mc ms : Nat} (S : CallFix p m c cc nL s args Ts own) (hM : Met l y ws rm (va_Pc (.ref b :: As) (rd D cl tys H)) (va_Qv (fun (_ : Unit) => True) (fun _ t => va_P D cl w1 t.heap) (va_A w H.size)) mc ms (va_A w H.size)) (cw : CallW R s args own C index y bytes maxL ret ws rm mc ms n) (hr : ∃ cellB : Cell, H[b]? = some cellB ∧ cellB.vm.isStatics = false ∧ s.vm.findClass C = some cellB.cls) (hK : va_K D cl tys s) (hS : va_S A H0 H locs) (hF : ∀ q, va_A w H.size q → A q) (hn : As.length = n) (hsz : ls.size = nL) (hW : (rest.map fun v => v.category).sum ≤ 8) (hst : st0 = As.reverse ++ .ref b :: rest) (hdg : decode cc pc = .ok (.invokevirtual index, 3)) (hf : cells + mc ≤ R.cells ∧ slots + ms ≤ R.slots)
    (kk : ∀ (H1 : Heap) (locs1 : List Loc), va_P D cl w1 H1 → H.size ≤ H1.size → (∀ q : Nat, q < H.size → ¬ va_A w H.size q → H1[q]? = H[q]?) → va_S A H0 H1 locs1 → W p l e R s m args below meth c H1 locs1 (cells + mc) (slots + ms) Q (F0 m (pc + 3) ls rest)) : W p l e R s m args below meth c H locs cells slots Q (F0 m pc ls st0) :=
  va_callv (va_runV (As := As) (rest := rest) S hM cw ⟨rd_blind, hr, rd_pre hK⟩ rfl hn hsz hst (lv_room hW) hdg hf) hS (fun q _ h => hF q h) hF (fun u t H1 locs1 ht hvm hw hB hz1 hk1 hS1 => kk H1 locs1 (by rw [← ht]; exact hB) hz1 hk1 hS1)
/-- a call that throws -/
theorem bcV {E0 : String} (S : CallFix p m c cc nL s args Ts own) (hM : vx_Met l y ws rm (va_Pc (.ref b :: As) (rdx D cl tys H)) xno (xX E0) 1 6 (fun _ => False)) (cw : CallW R s args own C index y bytes maxL ret ws rm 1 6 n) (hr : ∃ cellB : Cell, H[b]? = some cellB ∧ cellB.vm.isStatics = false ∧ s.vm.findClass C = some cellB.cls) (hK : va_K D cl tys s) (hE : xE s H) (hn : As.length = n) (hsz : ls.size = nL) (hW : (rest.map fun v => v.category).sum ≤ 8) (hst : st0 = As.reverse ++ .ref b :: rest) (hdg : decode cc pc = .ok (.invokevirtual index, 3)) (hf : cells + 1 ≤ R.cells ∧ slots + 6 ≤ R.slots)
    (kx : ∀ (ce : Cell) (q9 : Addr) (H1 : Heap), H.size ≤ H1.size → (∀ q : Nat, q < H.size → H1[q]? = H[q]?) → H1[q9]? = some ce → ce.vm = .none → s.vm.findClass E0 = some ce.cls → vx_W p l e R s m args below meth c H1 locs (cells + 1) (slots + 6) Q (F0 m pc ls rest) q9) : W p l e R s m args below meth c H locs cells slots Q (F0 m pc ls st0) := by
  have hr9 : vx_Run p l e R s m args below meth c H locs cells slots 1 6 (F0 m pc ls st0) rest (xno (Value.ref b :: As).toArray) (xX E0) (fun _ => False) := vx_runV (As := As) (rest := rest) S hM cw ⟨rdx_blind, hr, rdx_pre hK hE⟩ (g := F0 m pc ls st0) rfl hn hsz hst (lv_room hW) hdg hf
  intro T hT X
  rcases hr9 T hT X with ⟨v, st₀, t, T', L, h0, X', hL, e1, e2, hq, st⟩ | ⟨q, st₀, t, T', L, E, ce, h0, X', hL, e1, e2, ⟨u, hp, hb, hF⟩, hce, hcv, hcl, st⟩
  · exact hq.elim
  · have hL0 : L = [] := List.eq_nil_iff_forall_not_mem.mpr (fun z hz => hL z hz)
    subst hL0
    rw [List.append_nil] at X'
    have hE0 : E = E0 := hb
    subst hE0
    subst h0
    obtain ⟨t2, a1, b1⟩ := kx ce q T'.heap (by rw [e1]; exact hF.1) (fun z hz => by rw [e1]; exact hF.2 z hz (fun h => h)) (by rw [e1]; exact hce) hcv hcl T' rfl X'
    exact ⟨t2, st.trans a1, b1⟩
/-- .. and lets it through -/
theorem bcV_out {E0 : String} (S : CallFix p m c cc nL s args Ts own) (hM : vx_Met l y ws rm (va_Pc (.ref b :: As) (rdx D cl tys s.heap)) xno (xX E0) 1 6 (fun _ => False)) (cw : CallW R s args own C index y bytes maxL ret ws rm 1 6 n) (hr : ∃ cellB : Cell, s.heap[b]? = some cellB ∧ cellB.vm.isStatics = false ∧ s.vm.findClass C = some cellB.cls) (hK : va_K D cl tys s) (hE : xE s s.heap) (hn : As.length = n) (hsz : ls.size = nL) (hW : (rest.map fun v => v.category).sum ≤ 8) (hst : st0 = As.reverse ++ .ref b :: rest) (hdg : decode cc pc = .ok (.invokevirtual index, 3)) (hf : 0 + 1 ≤ R.cells ∧ 0 + 6 ≤ R.slots) (ht : ∀ x ∈ c.exceptionTable.toList, False) (hlocks : meth.locks = false) :
    W p l e R s m args below meth c s.heap [] 0 0 (vx_MQ below xno (xX E0) args s 1 6 (fun _ => False)) (F0 m pc ls st0) :=
  bcV S hM cw hr hK hE hn hsz hW hst hdg hf (fun ce q9 H1 hz hk hce hv hcl => vx_out (fun x hx => (ht x hx).elim) hlocks hce hv hcl (fun t htt hvm => ⟨(), trivial, rfl, by rw [htt]; exact hz, fun q hq _ => by rw [htt]; exact hk q hq⟩) (fun z hz => absurd hz List.not_mem_nil) (Nat.le_refl _) (Nat.le_refl _))
/-- throw new E0(text) in SmudgedStar, ahead of any write -/
theorem xthrow {E0 text : String} {ik is ic : Nat} (hexec : p.tables.exec = Jvm.exec) (hb : c.code = cc) (hl0 : l.stackTraces = false) (hown : s.vm.findClass RX0 = some m.cls) (hfit : Bundle.fit E0 = true)
    (hk : (Cond.classLink RX0 ik E0).before args s = true) (hini : (Cond.initialized E0).before args s = true) (hat : ∀ w ∈ (vx_atS RX0 ic E0 xnames).filter goodWord, w.before args s = true) (hnl : ∀ w ∈ (vx_atS RX0 ic E0 xnames).filter (fun w => !goodWord w), w ∈ xNL)
    (hgood : ∀ w ∈ Cond.classLink RX0 ik E0 :: Cond.initialized E0 :: vx_atS RX0 ic E0 xnames, vx_ot w = true) (hE : xE s s.heap) (hstr : (is, text) ∈ strL) (hsize : ls.size = c.maxLocals)
    (d0 : decode cc pc = .ok (.new ik, 3)) (d3 : decode cc (pc + 3) = .ok (.dup, 1)) (d4 : decode cc (pc + 4) = .ok (.ldc is, 2)) (d6 : decode cc (pc + 6) = .ok (.invokespecial ic, 3)) (d9 : decode cc (pc + 9) = .ok (.athrow, 1))
    (ht : ∀ x ∈ c.exceptionTable.toList, False) (hlocks : meth.locks = false) (hR : 5 < R.frames ∧ (rest.map fun v => v.category).sum + 82 ≤ R.locals ∧ 0 + 1 ≤ R.cells ∧ 0 + 6 ≤ R.slots) :
    W p l e R s m args below meth c s.heap [] 0 0 (vx_MQ below xno (xX E0) args s 1 6 (fun _ => False)) (F0 m pc ls rest) := by
  obtain ⟨hU, hN, hw, hs, -, -⟩ := hE
  obtain ⟨sa, hsa⟩ := hs _ hstr
  exact vx_throwS (A := fun _ => False) (names := xnames) (ik := ik) (is := is) (ic := ic) (cls := E0) (text := text) (sa := sa) hexec hb hl0 hown hfit (by decide +kernel) hk hini hsa
    (vx_hat hat hnl (fun w hm => xw_any (List.all_eq_true.mp xNL_kind w hm) (hw w hm))) hgood hU hN va_S.rf hsize d0 d3 d4 d6 d9 (fun x hx => (ht x hx).elim) hR.1 hR.2.1 hR.2.2.1 hR.2.2.2 hlocks
    (fun t hvm h1 h2 => ⟨(), trivial, rfl, h1, fun q hq _ => h2 q hq⟩) (fun z hz => absurd hz List.not_mem_nil) (Nat.le_refl _) (Nat.le_refl _)
/-- loops: T the locals at round i, of N -/
theorem w_loop {N : Nat} {T : Nat → List (Nat × Value)} {I : Nat → Prop} (i0 : Nat) (h0 : i0 ≤ N) (hI : I i0) {ls0 : Array Slot} (hl : lv_has ls0 nL (T i0))
    (step : ∀ (i : Nat) (ls : Array Slot), i ≤ N → I i → lv_has ls nL (T i) → (∀ ls' : Array Slot, i < N → I (i + 1) → lv_has ls' nL (T (i + 1)) → W p l e R s m args below meth c H locs cells slots Q (F0 m pc ls' [])) → W p l e R s m args below meth c H locs cells slots Q (F0 m pc ls [])) :
    W p l e R s m args below meth c H locs cells slots Q (F0 m pc ls0 []) := by
  have key : ∀ (n i : Nat) (ls : Array Slot), i ≤ N → N + 1 ≤ i + n → I i → lv_has ls nL (T i) → W p l e R s m args below meth c H locs cells slots Q (F0 m pc ls []) := by
    intro n
    induction n with
    | zero => intro i ls h1 h2; exact absurd h2 (by omega)
    | succ n ih => intro i ls h1 h2 h3 h4; exact step i ls h1 h3 h4 (fun ls' hlt g3 g4 => ih (i + 1) ls' (by omega) (by omega) g3 g4)
  exact key (N + 1) i0 ls0 h0 (by omega) hI hl
/-- .. that write -/
theorem w_loopH {N : Nat} {T : Nat → List (Nat × Value)} {w : Nat → va_W} {A : Nat → Prop} {H0 : Heap} (i0 : Nat) (h0 : i0 ≤ N) {ls0 : Array Slot} (hl : lv_has ls0 nL (T i0)) (hP : va_P D cl (w i0) H) (hS : va_S A H0 H locs)
    (step : ∀ (i : Nat) (ls : Array Slot) (H : Heap) (locs : List Loc), i ≤ N → lv_has ls nL (T i) → va_P D cl (w i) H → va_S A H0 H locs → (∀ (ls' : Array Slot) (H' : Heap) (locs' : List Loc), i < N → lv_has ls' nL (T (i + 1)) → va_P D cl (w (i + 1)) H' → va_S A H0 H' locs' → W p l e R s m args below meth c H' locs' cells slots Q (F0 m pc ls' [])) → W p l e R s m args below meth c H locs cells slots Q (F0 m pc ls [])) :
    W p l e R s m args below meth c H locs cells slots Q (F0 m pc ls0 []) := by
  have key : ∀ (n i : Nat) (ls : Array Slot) (H : Heap) (locs : List Loc), i ≤ N → N + 1 ≤ i + n → lv_has ls nL (T i) → va_P D cl (w i) H → va_S A H0 H locs → W p l e R s m args below meth c H locs cells slots Q (F0 m pc ls []) := by
    intro n
    induction n with
    | zero => intro i ls H locs h1 h2; exact absurd h2 (by omega)
    | succ n ih => intro i ls H locs h1 h2 h4 h5 h6; exact step i ls H locs h1 h4 h5 h6 (fun ls' H' locs' hlt g4 g5 g6 => ih (i + 1) ls' H' locs' (by omega) (by omega) g4 g5 g6)
  exact key (N + 1) i0 ls0 H locs h0 (by omega) hl hP hS
end CALLS
/-! the worlds -/
abbrev tyA (cI cZ : ClassId) : List (ClassId × FieldType) := [(cI, .int), (cZ, .boolean)]
/-- the nights' misses of each set -/
def mis (U : Nat → Int32) (Z : Nat → Bool) (n : Nat) : Nat → Int32 := fun k => nI (un U Z (nI k) n)
abbrev wXm (cI cZ : ClassId) (q : Nat → Nat) (tc nc ac : Nat) (ch : Int32) (U : Nat → Int32) (Z : Nat → Bool) (M B L F : Nat → Int32) : va_W :=
  [(q 0, .inr (0, [.int (nI tc), .int (nI nc), .ref (q 1), .ref (q 2), .ref (q 3), .int (nI ac), .ref (q 4), .ref (q 5), .ref (q 6), .int ch])), (q 1, .inl (cI, 40, .inl U)), (q 2, .inl (cZ, 40, .inl (fun j => bI (Z j)))), (q 3, .inl (cI, 256, .inl M)), (q 4, .inl (cI, 8, .inl B)), (q 5, .inl (cI, 8, .inl L)), (q 6, .inl (cI, 8, .inl F))]
abbrev wX (cI cZ : ClassId) (q : Nat → Nat) (tc nc ac : Nat) (ch : Int32) (U : Nat → Int32) (Z : Nat → Bool) (B L F : Nat → Int32) : va_W := wXm cI cZ q tc nc ac ch U Z (mis U Z nc) B L F
abbrev wM (cI cZ : ClassId) (r : Nat → Nat) (th : Int32) (tc nc ac : Nat) (ch : Int32) (U : Nat → Int32) (Z : Nat → Bool) (B L F : Nat → Int32) : va_W :=
  [(r 0, .inr (1, [.int th, .int (nI tc), .int (nI nc), .ref (r 1), .ref (r 2), .int (nI ac), .ref (r 3), .ref (r 4), .ref (r 5), .int ch])), (r 1, .inl (cI, 40, .inl U)), (r 2, .inl (cZ, 40, .inl (fun j => bI (Z j)))), (r 3, .inl (cI, 8, .inl F)), (r 4, .inl (cI, 8, .inl L)), (r 5, .inl (cI, 8, .inl B))]
end BASE
end
