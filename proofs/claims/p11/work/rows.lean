section
theorem goodIn_r {big : List Cond} (ws : List Cond) (ps : List Nat) (hp : ws = ps.filterMap (fun i => big[i]?)) (h : ws.all goodWord = true) : GoodIn big ws := by
  intro w hw
  have h1 := List.all_eq_true.mp h w hw
  rw [hp] at hw
  obtain ⟨i, -, hi⟩ := List.mem_filterMap.mp hw
  have hm : w ∈ big := by first | exact List.mem_of_getElem? hi | exact List.getElem?_mem hi
  exact ⟨hm, good_of_word h1⟩
theorem goodIn_app {big a b : List Cond} (ha : GoodIn big a) (hb : GoodIn big b) : GoodIn big (a ++ b) := fun w h => (List.mem_append.mp h).elim (ha w) (hb w)
theorem goodIn_ca {big a b : List Cond} {c : Cond} (ha : GoodIn big (c :: a)) (hb : GoodIn big b) : GoodIn big (c :: (a ++ b)) := fun w h => (List.mem_cons.mp h).elim (fun e => ha w (List.mem_cons.mpr (Or.inl e))) (fun h => (List.mem_append.mp h).elim (fun h => ha w (List.mem_cons.mpr (Or.inr h))) (hb w))
theorem goodIn_sub {big ws : List Cond} (hm : ∀ w ∈ ws, w ∈ big) (h : ws.all goodWord = true) : GoodIn big ws := fun w hw => ⟨hm w hw, good_of_word (List.all_eq_true.mp h w hw)⟩
-- ===== PART A: goes FIRST, ahead of the names: the tables' words, and 'selects' of the private methods out of them =====
/-- a private method of a class that the tables say can be made, by its rows of tables_1 -/
def lw_okq (q : MethodName × Nat) : Prop := (q.1.cls ≠ "java/lang/invoke/MethodHandle" ∧ q.1.cls ≠ "java/lang/invoke/VarHandle") ∧ Cond.instantiable q.1.cls q.2 ∈ tables_1 ∧ Cond.privateMethod q.1 ∈ tables_1 ∧ Cond.instanceMethod q.1 ∈ tables_1
theorem lw_p0 : lw_okq (⟨"LongSong$Verse", "addHalf", "(III)I"⟩, 16) := ⟨⟨by decide +kernel, by decide +kernel⟩, List.mem_of_getElem? (i := 22) (by decide +kernel), List.mem_of_getElem? (i := 338) (by decide +kernel), List.mem_of_getElem? (i := 339) (by decide +kernel)⟩
theorem lw_p1 : lw_okq (⟨"LongSong$Verse", "isHalf", "(I)Z"⟩, 16) := ⟨⟨by decide +kernel, by decide +kernel⟩, List.mem_of_getElem? (i := 22) (by decide +kernel), List.mem_of_getElem? (i := 350) (by decide +kernel), List.mem_of_getElem? (i := 351) (by decide +kernel)⟩
theorem lw_p2 : lw_okq (⟨"LongSong$Verse", "addLine", "(IIIII)I"⟩, 16) := ⟨⟨by decide +kernel, by decide +kernel⟩, List.mem_of_getElem? (i := 22) (by decide +kernel), List.mem_of_getElem? (i := 354) (by decide +kernel), List.mem_of_getElem? (i := 355) (by decide +kernel)⟩
theorem lw_p3 : lw_okq (⟨"LongSong$Verse", "isLine", "(I)Z"⟩, 16) := ⟨⟨by decide +kernel, by decide +kernel⟩, List.mem_of_getElem? (i := 22) (by decide +kernel), List.mem_of_getElem? (i := 366) (by decide +kernel), List.mem_of_getElem? (i := 367) (by decide +kernel)⟩
theorem lw_p4 : lw_okq (⟨"LongSong$Verse", "scans", "(I)Z"⟩, 16) := ⟨⟨by decide +kernel, by decide +kernel⟩, List.mem_of_getElem? (i := 22) (by decide +kernel), List.mem_of_getElem? (i := 373) (by decide +kernel), List.mem_of_getElem? (i := 374) (by decide +kernel)⟩
theorem lw_p5 : lw_okq (⟨"LongSong$Verse", "fitsFirst", "(II)Z"⟩, 16) := ⟨⟨by decide +kernel, by decide +kernel⟩, List.mem_of_getElem? (i := 22) (by decide +kernel), List.mem_of_getElem? (i := 377) (by decide +kernel), List.mem_of_getElem? (i := 378) (by decide +kernel)⟩
theorem lw_p6 : lw_okq (⟨"LongSong$Verse", "sungBeats", "(II)I"⟩, 16) := ⟨⟨by decide +kernel, by decide +kernel⟩, List.mem_of_getElem? (i := 22) (by decide +kernel), List.mem_of_getElem? (i := 381) (by decide +kernel), List.mem_of_getElem? (i := 382) (by decide +kernel)⟩
theorem lw_p7 : lw_okq (⟨"LongSong$Verse", "sungHeavy", "(II)I"⟩, 16) := ⟨⟨by decide +kernel, by decide +kernel⟩, List.mem_of_getElem? (i := 22) (by decide +kernel), List.mem_of_getElem? (i := 385) (by decide +kernel), List.mem_of_getElem? (i := 386) (by decide +kernel)⟩
theorem lw_p8 : lw_okq (⟨"LongSong$Verse", "fitsSecond", "(II)Z"⟩, 16) := ⟨⟨by decide +kernel, by decide +kernel⟩, List.mem_of_getElem? (i := 22) (by decide +kernel), List.mem_of_getElem? (i := 389) (by decide +kernel), List.mem_of_getElem? (i := 390) (by decide +kernel)⟩
theorem lw_p9 : lw_okq (⟨"LongSong$Verse", "lineBeats", "(I)I"⟩, 16) := ⟨⟨by decide +kernel, by decide +kernel⟩, List.mem_of_getElem? (i := 22) (by decide +kernel), List.mem_of_getElem? (i := 393) (by decide +kernel), List.mem_of_getElem? (i := 394) (by decide +kernel)⟩
theorem lw_p10 : lw_okq (⟨"LongSong$Verse", "lineHeavy", "(I)I"⟩, 16) := ⟨⟨by decide +kernel, by decide +kernel⟩, List.mem_of_getElem? (i := 22) (by decide +kernel), List.mem_of_getElem? (i := 397) (by decide +kernel), List.mem_of_getElem? (i := 398) (by decide +kernel)⟩
theorem lw_p11 : lw_okq (⟨"LongSong$Verse", "putInPlace", "(II)I"⟩, 16) := ⟨⟨by decide +kernel, by decide +kernel⟩, List.mem_of_getElem? (i := 22) (by decide +kernel), List.mem_of_getElem? (i := 405) (by decide +kernel), List.mem_of_getElem? (i := 406) (by decide +kernel)⟩
theorem lw_p12 : lw_okq (⟨"LongSong$Verse", "leastFirst", "(I)I"⟩, 16) := ⟨⟨by decide +kernel, by decide +kernel⟩, List.mem_of_getElem? (i := 22) (by decide +kernel), List.mem_of_getElem? (i := 409) (by decide +kernel), List.mem_of_getElem? (i := 410) (by decide +kernel)⟩
theorem lw_p13 : lw_okq (⟨"LongSong$Verse", "leastSecond", "(I)I"⟩, 16) := ⟨⟨by decide +kernel, by decide +kernel⟩, List.mem_of_getElem? (i := 22) (by decide +kernel), List.mem_of_getElem? (i := 413) (by decide +kernel), List.mem_of_getElem? (i := 414) (by decide +kernel)⟩
theorem lw_p14 : lw_okq (⟨"LongSong$Verse", "mend", "(III)Z"⟩, 16) := ⟨⟨by decide +kernel, by decide +kernel⟩, List.mem_of_getElem? (i := 22) (by decide +kernel), List.mem_of_getElem? (i := 418) (by decide +kernel), List.mem_of_getElem? (i := 419) (by decide +kernel)⟩
theorem lw_p15 : lw_okq (⟨"LongSong$Verse", "noteBroken", "(I)V"⟩, 16) := ⟨⟨by decide +kernel, by decide +kernel⟩, List.mem_of_getElem? (i := 22) (by decide +kernel), List.mem_of_getElem? (i := 422) (by decide +kernel), List.mem_of_getElem? (i := 423) (by decide +kernel)⟩
def lw_privs_1 : List (MethodName × Nat) := [(⟨"LongSong$Verse", "addHalf", "(III)I"⟩, 16), (⟨"LongSong$Verse", "isHalf", "(I)Z"⟩, 16), (⟨"LongSong$Verse", "addLine", "(IIIII)I"⟩, 16), (⟨"LongSong$Verse", "isLine", "(I)Z"⟩, 16), (⟨"LongSong$Verse", "scans", "(I)Z"⟩, 16), (⟨"LongSong$Verse", "fitsFirst", "(II)Z"⟩, 16), (⟨"LongSong$Verse", "sungBeats", "(II)I"⟩, 16), (⟨"LongSong$Verse", "sungHeavy", "(II)I"⟩, 16), (⟨"LongSong$Verse", "fitsSecond", "(II)Z"⟩, 16), (⟨"LongSong$Verse", "lineBeats", "(I)I"⟩, 16), (⟨"LongSong$Verse", "lineHeavy", "(I)I"⟩, 16), (⟨"LongSong$Verse", "putInPlace", "(II)I"⟩, 16), (⟨"LongSong$Verse", "leastFirst", "(I)I"⟩, 16), (⟨"LongSong$Verse", "leastSecond", "(I)I"⟩, 16), (⟨"LongSong$Verse", "mend", "(III)Z"⟩, 16), (⟨"LongSong$Verse", "noteBroken", "(I)V"⟩, 16)]
theorem lw_r1 : ∀ q ∈ lw_privs_1, lw_okq q := List.forall_mem_cons.mpr ⟨lw_p0, List.forall_mem_cons.mpr ⟨lw_p1, List.forall_mem_cons.mpr ⟨lw_p2, List.forall_mem_cons.mpr ⟨lw_p3, List.forall_mem_cons.mpr ⟨lw_p4, List.forall_mem_cons.mpr ⟨lw_p5, List.forall_mem_cons.mpr ⟨lw_p6, List.forall_mem_cons.mpr ⟨lw_p7, List.forall_mem_cons.mpr ⟨lw_p8, List.forall_mem_cons.mpr ⟨lw_p9, List.forall_mem_cons.mpr ⟨lw_p10, List.forall_mem_cons.mpr ⟨lw_p11, List.forall_mem_cons.mpr ⟨lw_p12, List.forall_mem_cons.mpr ⟨lw_p13, List.forall_mem_cons.mpr ⟨lw_p14, List.forall_mem_cons.mpr ⟨lw_p15, fun _ h => absurd h List.not_mem_nil⟩⟩⟩⟩⟩⟩⟩⟩⟩⟩⟩⟩⟩⟩⟩⟩
theorem lw_p16 : lw_okq (⟨"LongSong$Scenes", "append", "(JI)I"⟩, 13) := ⟨⟨by decide +kernel, by decide +kernel⟩, List.mem_of_getElem? (i := 96) (by decide +kernel), List.mem_of_getElem? (i := 437) (by decide +kernel), List.mem_of_getElem? (i := 438) (by decide +kernel)⟩
theorem lw_p17 : lw_okq (⟨"LongSong$Scenes", "tellTape", "()I"⟩, 13) := ⟨⟨by decide +kernel, by decide +kernel⟩, List.mem_of_getElem? (i := 96) (by decide +kernel), List.mem_of_getElem? (i := 446) (by decide +kernel), List.mem_of_getElem? (i := 447) (by decide +kernel)⟩
theorem lw_p18 : lw_okq (⟨"LongSong$Scenes", "readTape", "()I"⟩, 13) := ⟨⟨by decide +kernel, by decide +kernel⟩, List.mem_of_getElem? (i := 96) (by decide +kernel), List.mem_of_getElem? (i := 450) (by decide +kernel), List.mem_of_getElem? (i := 451) (by decide +kernel)⟩
theorem lw_p19 : lw_okq (⟨"LongSong$Scenes", "misfit", "()I"⟩, 13) := ⟨⟨by decide +kernel, by decide +kernel⟩, List.mem_of_getElem? (i := 96) (by decide +kernel), List.mem_of_getElem? (i := 454) (by decide +kernel), List.mem_of_getElem? (i := 455) (by decide +kernel)⟩
theorem lw_p20 : lw_okq (⟨"LongSong$Scenes", "goesOn", "(I)Z"⟩, 13) := ⟨⟨by decide +kernel, by decide +kernel⟩, List.mem_of_getElem? (i := 96) (by decide +kernel), List.mem_of_getElem? (i := 458) (by decide +kernel), List.mem_of_getElem? (i := 459) (by decide +kernel)⟩
theorem lw_p21 : lw_okq (⟨"LongSong$Scenes", "opens", "(I)Z"⟩, 13) := ⟨⟨by decide +kernel, by decide +kernel⟩, List.mem_of_getElem? (i := 96) (by decide +kernel), List.mem_of_getElem? (i := 468) (by decide +kernel), List.mem_of_getElem? (i := 469) (by decide +kernel)⟩
theorem lw_p22 : lw_okq (⟨"LongSong$Scenes", "closes", "(II)Z"⟩, 13) := ⟨⟨by decide +kernel, by decide +kernel⟩, List.mem_of_getElem? (i := 96) (by decide +kernel), List.mem_of_getElem? (i := 472) (by decide +kernel), List.mem_of_getElem? (i := 473) (by decide +kernel)⟩
theorem lw_p23 : lw_okq (⟨"LongSong$Scenes", "untold", "(I)I"⟩, 13) := ⟨⟨by decide +kernel, by decide +kernel⟩, List.mem_of_getElem? (i := 96) (by decide +kernel), List.mem_of_getElem? (i := 479) (by decide +kernel), List.mem_of_getElem? (i := 480) (by decide +kernel)⟩
theorem lw_p24 : lw_okq (⟨"LongSong$Scenes", "isTold", "(I)Z"⟩, 13) := ⟨⟨by decide +kernel, by decide +kernel⟩, List.mem_of_getElem? (i := 96) (by decide +kernel), List.mem_of_getElem? (i := 483) (by decide +kernel), List.mem_of_getElem? (i := 484) (by decide +kernel)⟩
theorem lw_p25 : lw_okq (⟨"LongSong$Scenes", "standsInAnother", "(I)Z"⟩, 13) := ⟨⟨by decide +kernel, by decide +kernel⟩, List.mem_of_getElem? (i := 96) (by decide +kernel), List.mem_of_getElem? (i := 487) (by decide +kernel), List.mem_of_getElem? (i := 488) (by decide +kernel)⟩
theorem lw_p26 : lw_okq (⟨"LongSong$Scenes", "keep", "(I)V"⟩, 13) := ⟨⟨by decide +kernel, by decide +kernel⟩, List.mem_of_getElem? (i := 96) (by decide +kernel), List.mem_of_getElem? (i := 491) (by decide +kernel), List.mem_of_getElem? (i := 492) (by decide +kernel)⟩
theorem lw_p27 : lw_okq (⟨"LongSong$Scenes", "putLast", "(I)V"⟩, 13) := ⟨⟨by decide +kernel, by decide +kernel⟩, List.mem_of_getElem? (i := 96) (by decide +kernel), List.mem_of_getElem? (i := 498) (by decide +kernel), List.mem_of_getElem? (i := 499) (by decide +kernel)⟩
theorem lw_p28 : lw_okq (⟨"LongSong$Book", "isSinger", "(I)Z"⟩, 11) := ⟨⟨by decide +kernel, by decide +kernel⟩, List.mem_of_getElem? (i := 151) (by decide +kernel), List.mem_of_getElem? (i := 511) (by decide +kernel), List.mem_of_getElem? (i := 512) (by decide +kernel)⟩
theorem lw_p29 : lw_okq (⟨"LongSong$Book", "stockOf", "(III)J"⟩, 11) := ⟨⟨by decide +kernel, by decide +kernel⟩, List.mem_of_getElem? (i := 151) (by decide +kernel), List.mem_of_getElem? (i := 518) (by decide +kernel), List.mem_of_getElem? (i := 519) (by decide +kernel)⟩
theorem lw_p30 : lw_okq (⟨"LongSong$Singing", "perform", "(IJJ)Z"⟩, 13) := ⟨⟨by decide +kernel, by decide +kernel⟩, List.mem_of_getElem? (i := 196) (by decide +kernel), List.mem_of_getElem? (i := 524) (by decide +kernel), List.mem_of_getElem? (i := 525) (by decide +kernel)⟩
theorem lw_p31 : lw_okq (⟨"LongSong$Singing", "enterScene", "(I)V"⟩, 13) := ⟨⟨by decide +kernel, by decide +kernel⟩, List.mem_of_getElem? (i := 196) (by decide +kernel), List.mem_of_getElem? (i := 528) (by decide +kernel), List.mem_of_getElem? (i := 529) (by decide +kernel)⟩
def lw_privs_2 : List (MethodName × Nat) := [(⟨"LongSong$Scenes", "append", "(JI)I"⟩, 13), (⟨"LongSong$Scenes", "tellTape", "()I"⟩, 13), (⟨"LongSong$Scenes", "readTape", "()I"⟩, 13), (⟨"LongSong$Scenes", "misfit", "()I"⟩, 13), (⟨"LongSong$Scenes", "goesOn", "(I)Z"⟩, 13), (⟨"LongSong$Scenes", "opens", "(I)Z"⟩, 13), (⟨"LongSong$Scenes", "closes", "(II)Z"⟩, 13), (⟨"LongSong$Scenes", "untold", "(I)I"⟩, 13), (⟨"LongSong$Scenes", "isTold", "(I)Z"⟩, 13), (⟨"LongSong$Scenes", "standsInAnother", "(I)Z"⟩, 13), (⟨"LongSong$Scenes", "keep", "(I)V"⟩, 13), (⟨"LongSong$Scenes", "putLast", "(I)V"⟩, 13), (⟨"LongSong$Book", "isSinger", "(I)Z"⟩, 11), (⟨"LongSong$Book", "stockOf", "(III)J"⟩, 11), (⟨"LongSong$Singing", "perform", "(IJJ)Z"⟩, 13), (⟨"LongSong$Singing", "enterScene", "(I)V"⟩, 13)]
theorem lw_r2 : ∀ q ∈ lw_privs_2, lw_okq q := List.forall_mem_cons.mpr ⟨lw_p16, List.forall_mem_cons.mpr ⟨lw_p17, List.forall_mem_cons.mpr ⟨lw_p18, List.forall_mem_cons.mpr ⟨lw_p19, List.forall_mem_cons.mpr ⟨lw_p20, List.forall_mem_cons.mpr ⟨lw_p21, List.forall_mem_cons.mpr ⟨lw_p22, List.forall_mem_cons.mpr ⟨lw_p23, List.forall_mem_cons.mpr ⟨lw_p24, List.forall_mem_cons.mpr ⟨lw_p25, List.forall_mem_cons.mpr ⟨lw_p26, List.forall_mem_cons.mpr ⟨lw_p27, List.forall_mem_cons.mpr ⟨lw_p28, List.forall_mem_cons.mpr ⟨lw_p29, List.forall_mem_cons.mpr ⟨lw_p30, List.forall_mem_cons.mpr ⟨lw_p31, fun _ h => absurd h List.not_mem_nil⟩⟩⟩⟩⟩⟩⟩⟩⟩⟩⟩⟩⟩⟩⟩⟩
theorem lw_p32 : lw_okq (⟨"LongSong$Singing", "keepSong", "()Z"⟩, 13) := ⟨⟨by decide +kernel, by decide +kernel⟩, List.mem_of_getElem? (i := 196) (by decide +kernel), List.mem_of_getElem? (i := 533) (by decide +kernel), List.mem_of_getElem? (i := 534) (by decide +kernel)⟩
theorem lw_p33 : lw_okq (⟨"LongSong$Singing", "goBack", "()V"⟩, 13) := ⟨⟨by decide +kernel, by decide +kernel⟩, List.mem_of_getElem? (i := 196) (by decide +kernel), List.mem_of_getElem? (i := 538) (by decide +kernel), List.mem_of_getElem? (i := 539) (by decide +kernel)⟩
theorem lw_p34 : lw_okq (⟨"LongSong$Scenes", "sign", "(II)I"⟩, 13) := ⟨⟨by decide +kernel, by decide +kernel⟩, List.mem_of_getElem? (i := 96) (by decide +kernel), List.mem_of_getElem? (i := 542) (by decide +kernel), List.mem_of_getElem? (i := 543) (by decide +kernel)⟩
theorem lw_p35 : lw_okq (⟨"LongSong$Singing", "takeSign", "(I)Z"⟩, 13) := ⟨⟨by decide +kernel, by decide +kernel⟩, List.mem_of_getElem? (i := 196) (by decide +kernel), List.mem_of_getElem? (i := 546) (by decide +kernel), List.mem_of_getElem? (i := 547) (by decide +kernel)⟩
theorem lw_p36 : lw_okq (⟨"LongSong$Scenes", "mateOf", "(II)I"⟩, 13) := ⟨⟨by decide +kernel, by decide +kernel⟩, List.mem_of_getElem? (i := 96) (by decide +kernel), List.mem_of_getElem? (i := 550) (by decide +kernel), List.mem_of_getElem? (i := 551) (by decide +kernel)⟩
theorem lw_p37 : lw_okq (⟨"LongSong$Singing", "again", "()Z"⟩, 13) := ⟨⟨by decide +kernel, by decide +kernel⟩, List.mem_of_getElem? (i := 196) (by decide +kernel), List.mem_of_getElem? (i := 554) (by decide +kernel), List.mem_of_getElem? (i := 555) (by decide +kernel)⟩
theorem lw_p38 : lw_okq (⟨"LongSong$Singing", "takeItem", "(I)Z"⟩, 13) := ⟨⟨by decide +kernel, by decide +kernel⟩, List.mem_of_getElem? (i := 196) (by decide +kernel), List.mem_of_getElem? (i := 558) (by decide +kernel), List.mem_of_getElem? (i := 559) (by decide +kernel)⟩
theorem lw_p39 : lw_okq (⟨"LongSong$Singing", "singLine", "(I)Z"⟩, 13) := ⟨⟨by decide +kernel, by decide +kernel⟩, List.mem_of_getElem? (i := 196) (by decide +kernel), List.mem_of_getElem? (i := 563) (by decide +kernel), List.mem_of_getElem? (i := 564) (by decide +kernel)⟩
theorem lw_p40 : lw_okq (⟨"LongSong$Singing", "choose", "(I)I"⟩, 13) := ⟨⟨by decide +kernel, by decide +kernel⟩, List.mem_of_getElem? (i := 196) (by decide +kernel), List.mem_of_getElem? (i := 573) (by decide +kernel), List.mem_of_getElem? (i := 574) (by decide +kernel)⟩
theorem lw_p41 : lw_okq (⟨"LongSong$Singing", "await", "(I)Z"⟩, 13) := ⟨⟨by decide +kernel, by decide +kernel⟩, List.mem_of_getElem? (i := 196) (by decide +kernel), List.mem_of_getElem? (i := 581) (by decide +kernel), List.mem_of_getElem? (i := 582) (by decide +kernel)⟩
theorem lw_p42 : lw_okq (⟨"LongSong$Book", "addSinger", "(I)I"⟩, 11) := ⟨⟨by decide +kernel, by decide +kernel⟩, List.mem_of_getElem? (i := 151) (by decide +kernel), List.mem_of_getElem? (i := 593) (by decide +kernel), List.mem_of_getElem? (i := 594) (by decide +kernel)⟩
theorem lw_p43 : lw_okq (⟨"LongSong$Book", "enter", "(IIIZ)I"⟩, 11) := ⟨⟨by decide +kernel, by decide +kernel⟩, List.mem_of_getElem? (i := 151) (by decide +kernel), List.mem_of_getElem? (i := 605) (by decide +kernel), List.mem_of_getElem? (i := 606) (by decide +kernel)⟩
theorem lw_p44 : lw_okq (⟨"LongSong$Book", "isKnown", "(I)Z"⟩, 11) := ⟨⟨by decide +kernel, by decide +kernel⟩, List.mem_of_getElem? (i := 151) (by decide +kernel), List.mem_of_getElem? (i := 617) (by decide +kernel), List.mem_of_getElem? (i := 618) (by decide +kernel)⟩
theorem lw_p45 : lw_okq (⟨"LongSong$Book", "openAt", "(II)V"⟩, 11) := ⟨⟨by decide +kernel, by decide +kernel⟩, List.mem_of_getElem? (i := 151) (by decide +kernel), List.mem_of_getElem? (i := 630) (by decide +kernel), List.mem_of_getElem? (i := 631) (by decide +kernel)⟩
theorem lw_p46 : lw_okq (⟨"LongSong$Book", "changes", "(II)I"⟩, 11) := ⟨⟨by decide +kernel, by decide +kernel⟩, List.mem_of_getElem? (i := 151) (by decide +kernel), List.mem_of_getElem? (i := 635) (by decide +kernel), List.mem_of_getElem? (i := 636) (by decide +kernel)⟩
theorem lw_p47 : lw_okq (⟨"LongSong$Book", "masterOf", "(I)I"⟩, 11) := ⟨⟨by decide +kernel, by decide +kernel⟩, List.mem_of_getElem? (i := 151) (by decide +kernel), List.mem_of_getElem? (i := 644) (by decide +kernel), List.mem_of_getElem? (i := 645) (by decide +kernel)⟩
def lw_privs_3 : List (MethodName × Nat) := [(⟨"LongSong$Singing", "keepSong", "()Z"⟩, 13), (⟨"LongSong$Singing", "goBack", "()V"⟩, 13), (⟨"LongSong$Scenes", "sign", "(II)I"⟩, 13), (⟨"LongSong$Singing", "takeSign", "(I)Z"⟩, 13), (⟨"LongSong$Scenes", "mateOf", "(II)I"⟩, 13), (⟨"LongSong$Singing", "again", "()Z"⟩, 13), (⟨"LongSong$Singing", "takeItem", "(I)Z"⟩, 13), (⟨"LongSong$Singing", "singLine", "(I)Z"⟩, 13), (⟨"LongSong$Singing", "choose", "(I)I"⟩, 13), (⟨"LongSong$Singing", "await", "(I)Z"⟩, 13), (⟨"LongSong$Book", "addSinger", "(I)I"⟩, 11), (⟨"LongSong$Book", "enter", "(IIIZ)I"⟩, 11), (⟨"LongSong$Book", "isKnown", "(I)Z"⟩, 11), (⟨"LongSong$Book", "openAt", "(II)V"⟩, 11), (⟨"LongSong$Book", "changes", "(II)I"⟩, 11), (⟨"LongSong$Book", "masterOf", "(I)I"⟩, 11)]
theorem lw_r3 : ∀ q ∈ lw_privs_3, lw_okq q := List.forall_mem_cons.mpr ⟨lw_p32, List.forall_mem_cons.mpr ⟨lw_p33, List.forall_mem_cons.mpr ⟨lw_p34, List.forall_mem_cons.mpr ⟨lw_p35, List.forall_mem_cons.mpr ⟨lw_p36, List.forall_mem_cons.mpr ⟨lw_p37, List.forall_mem_cons.mpr ⟨lw_p38, List.forall_mem_cons.mpr ⟨lw_p39, List.forall_mem_cons.mpr ⟨lw_p40, List.forall_mem_cons.mpr ⟨lw_p41, List.forall_mem_cons.mpr ⟨lw_p42, List.forall_mem_cons.mpr ⟨lw_p43, List.forall_mem_cons.mpr ⟨lw_p44, List.forall_mem_cons.mpr ⟨lw_p45, List.forall_mem_cons.mpr ⟨lw_p46, List.forall_mem_cons.mpr ⟨lw_p47, fun _ h => absurd h List.not_mem_nil⟩⟩⟩⟩⟩⟩⟩⟩⟩⟩⟩⟩⟩⟩⟩⟩
theorem lw_p48 : lw_okq (⟨"LongSong$Book", "isNearer", "(III)Z"⟩, 11) := ⟨⟨by decide +kernel, by decide +kernel⟩, List.mem_of_getElem? (i := 151) (by decide +kernel), List.mem_of_getElem? (i := 648) (by decide +kernel), List.mem_of_getElem? (i := 649) (by decide +kernel)⟩
theorem lw_p49 : lw_okq (⟨"LongSong$Book", "masterStock", "(I)J"⟩, 11) := ⟨⟨by decide +kernel, by decide +kernel⟩, List.mem_of_getElem? (i := 151) (by decide +kernel), List.mem_of_getElem? (i := 661) (by decide +kernel), List.mem_of_getElem? (i := 662) (by decide +kernel)⟩
theorem lw_p50 : lw_okq (⟨"LongSong$Book", "commonStock", "()J"⟩, 11) := ⟨⟨by decide +kernel, by decide +kernel⟩, List.mem_of_getElem? (i := 151) (by decide +kernel), List.mem_of_getElem? (i := 671) (by decide +kernel), List.mem_of_getElem? (i := 672) (by decide +kernel)⟩
theorem lw_p51 : lw_okq (⟨"LongSong$Book", "villageWithMost", "(I)I"⟩, 11) := ⟨⟨by decide +kernel, by decide +kernel⟩, List.mem_of_getElem? (i := 151) (by decide +kernel), List.mem_of_getElem? (i := 680) (by decide +kernel), List.mem_of_getElem? (i := 681) (by decide +kernel)⟩
theorem lw_p52 : lw_okq (⟨"LongSong$Reading", "take", "([IIIJ)V"⟩, 7) := ⟨⟨by decide +kernel, by decide +kernel⟩, List.mem_of_getElem? (i := 244) (by decide +kernel), List.mem_of_getElem? (i := 693) (by decide +kernel), List.mem_of_getElem? (i := 694) (by decide +kernel)⟩
theorem lw_p53 : lw_okq (⟨"LongSong$Reading", "ways", "(I)I"⟩, 7) := ⟨⟨by decide +kernel, by decide +kernel⟩, List.mem_of_getElem? (i := 244) (by decide +kernel), List.mem_of_getElem? (i := 699) (by decide +kernel), List.mem_of_getElem? (i := 700) (by decide +kernel)⟩
theorem lw_p54 : lw_okq (⟨"LongSong$Scenes", "within", "(I)I"⟩, 13) := ⟨⟨by decide +kernel, by decide +kernel⟩, List.mem_of_getElem? (i := 96) (by decide +kernel), List.mem_of_getElem? (i := 703) (by decide +kernel), List.mem_of_getElem? (i := 704) (by decide +kernel)⟩
theorem lw_p55 : lw_okq (⟨"LongSong$Reading", "fillTable", "(I)V"⟩, 7) := ⟨⟨by decide +kernel, by decide +kernel⟩, List.mem_of_getElem? (i := 244) (by decide +kernel), List.mem_of_getElem? (i := 707) (by decide +kernel), List.mem_of_getElem? (i := 708) (by decide +kernel)⟩
theorem lw_p56 : lw_okq (⟨"LongSong$Reading", "clear", "(I)V"⟩, 7) := ⟨⟨by decide +kernel, by decide +kernel⟩, List.mem_of_getElem? (i := 244) (by decide +kernel), List.mem_of_getElem? (i := 711) (by decide +kernel), List.mem_of_getElem? (i := 712) (by decide +kernel)⟩
theorem lw_p57 : lw_okq (⟨"LongSong$Reading", "cellsInUse", "()I"⟩, 7) := ⟨⟨by decide +kernel, by decide +kernel⟩, List.mem_of_getElem? (i := 244) (by decide +kernel), List.mem_of_getElem? (i := 715) (by decide +kernel), List.mem_of_getElem? (i := 716) (by decide +kernel)⟩
theorem lw_p58 : lw_okq (⟨"LongSong$Reading", "addOne", "(I)V"⟩, 7) := ⟨⟨by decide +kernel, by decide +kernel⟩, List.mem_of_getElem? (i := 244) (by decide +kernel), List.mem_of_getElem? (i := 719) (by decide +kernel), List.mem_of_getElem? (i := 720) (by decide +kernel)⟩
theorem lw_p59 : lw_okq (⟨"LongSong$Reading", "cell", "(III)I"⟩, 7) := ⟨⟨by decide +kernel, by decide +kernel⟩, List.mem_of_getElem? (i := 244) (by decide +kernel), List.mem_of_getElem? (i := 723) (by decide +kernel), List.mem_of_getElem? (i := 724) (by decide +kernel)⟩
theorem lw_p60 : lw_okq (⟨"LongSong$Reading", "readSign", "(I)V"⟩, 7) := ⟨⟨by decide +kernel, by decide +kernel⟩, List.mem_of_getElem? (i := 244) (by decide +kernel), List.mem_of_getElem? (i := 732) (by decide +kernel), List.mem_of_getElem? (i := 733) (by decide +kernel)⟩
theorem lw_p61 : lw_okq (⟨"LongSong$Reading", "followBySlot", "(I)V"⟩, 7) := ⟨⟨by decide +kernel, by decide +kernel⟩, List.mem_of_getElem? (i := 244) (by decide +kernel), List.mem_of_getElem? (i := 737) (by decide +kernel), List.mem_of_getElem? (i := 738) (by decide +kernel)⟩
theorem lw_p62 : lw_okq (⟨"LongSong$Reading", "multiply", "(II)V"⟩, 7) := ⟨⟨by decide +kernel, by decide +kernel⟩, List.mem_of_getElem? (i := 244) (by decide +kernel), List.mem_of_getElem? (i := 746) (by decide +kernel), List.mem_of_getElem? (i := 747) (by decide +kernel)⟩
theorem lw_p63 : lw_okq (⟨"LongSong$Reading", "close", "()V"⟩, 7) := ⟨⟨by decide +kernel, by decide +kernel⟩, List.mem_of_getElem? (i := 244) (by decide +kernel), List.mem_of_getElem? (i := 750) (by decide +kernel), List.mem_of_getElem? (i := 751) (by decide +kernel)⟩
def lw_privs_4 : List (MethodName × Nat) := [(⟨"LongSong$Book", "isNearer", "(III)Z"⟩, 11), (⟨"LongSong$Book", "masterStock", "(I)J"⟩, 11), (⟨"LongSong$Book", "commonStock", "()J"⟩, 11), (⟨"LongSong$Book", "villageWithMost", "(I)I"⟩, 11), (⟨"LongSong$Reading", "take", "([IIIJ)V"⟩, 7), (⟨"LongSong$Reading", "ways", "(I)I"⟩, 7), (⟨"LongSong$Scenes", "within", "(I)I"⟩, 13), (⟨"LongSong$Reading", "fillTable", "(I)V"⟩, 7), (⟨"LongSong$Reading", "clear", "(I)V"⟩, 7), (⟨"LongSong$Reading", "cellsInUse", "()I"⟩, 7), (⟨"LongSong$Reading", "addOne", "(I)V"⟩, 7), (⟨"LongSong$Reading", "cell", "(III)I"⟩, 7), (⟨"LongSong$Reading", "readSign", "(I)V"⟩, 7), (⟨"LongSong$Reading", "followBySlot", "(I)V"⟩, 7), (⟨"LongSong$Reading", "multiply", "(II)V"⟩, 7), (⟨"LongSong$Reading", "close", "()V"⟩, 7)]
theorem lw_r4 : ∀ q ∈ lw_privs_4, lw_okq q := List.forall_mem_cons.mpr ⟨lw_p48, List.forall_mem_cons.mpr ⟨lw_p49, List.forall_mem_cons.mpr ⟨lw_p50, List.forall_mem_cons.mpr ⟨lw_p51, List.forall_mem_cons.mpr ⟨lw_p52, List.forall_mem_cons.mpr ⟨lw_p53, List.forall_mem_cons.mpr ⟨lw_p54, List.forall_mem_cons.mpr ⟨lw_p55, List.forall_mem_cons.mpr ⟨lw_p56, List.forall_mem_cons.mpr ⟨lw_p57, List.forall_mem_cons.mpr ⟨lw_p58, List.forall_mem_cons.mpr ⟨lw_p59, List.forall_mem_cons.mpr ⟨lw_p60, List.forall_mem_cons.mpr ⟨lw_p61, List.forall_mem_cons.mpr ⟨lw_p62, List.forall_mem_cons.mpr ⟨lw_p63, fun _ h => absurd h List.not_mem_nil⟩⟩⟩⟩⟩⟩⟩⟩⟩⟩⟩⟩⟩⟩⟩⟩
theorem lw_p64 : lw_okq (⟨"LongSong$Reading", "lower", "()V"⟩, 7) := ⟨⟨by decide +kernel, by decide +kernel⟩, List.mem_of_getElem? (i := 244) (by decide +kernel), List.mem_of_getElem? (i := 754) (by decide +kernel), List.mem_of_getElem? (i := 755) (by decide +kernel)⟩
theorem lw_p65 : lw_okq (⟨"LongSong$Reading", "repeat", "()V"⟩, 7) := ⟨⟨by decide +kernel, by decide +kernel⟩, List.mem_of_getElem? (i := 244) (by decide +kernel), List.mem_of_getElem? (i := 758) (by decide +kernel), List.mem_of_getElem? (i := 759) (by decide +kernel)⟩
theorem lw_p66 : lw_okq (⟨"LongSong$Reading", "addTable", "(II)V"⟩, 7) := ⟨⟨by decide +kernel, by decide +kernel⟩, List.mem_of_getElem? (i := 244) (by decide +kernel), List.mem_of_getElem? (i := 762) (by decide +kernel), List.mem_of_getElem? (i := 763) (by decide +kernel)⟩
theorem lw_p67 : lw_okq (⟨"LongSong$Reading", "raise", "()V"⟩, 7) := ⟨⟨by decide +kernel, by decide +kernel⟩, List.mem_of_getElem? (i := 244) (by decide +kernel), List.mem_of_getElem? (i := 766) (by decide +kernel), List.mem_of_getElem? (i := 767) (by decide +kernel)⟩
theorem lw_p68 : lw_okq (⟨"LongSong$Book", "stockAround", "(I)J"⟩, 11) := ⟨⟨by decide +kernel, by decide +kernel⟩, List.mem_of_getElem? (i := 151) (by decide +kernel), List.mem_of_getElem? (i := 774) (by decide +kernel), List.mem_of_getElem? (i := 775) (by decide +kernel)⟩
theorem lw_p69 : lw_okq (⟨"LongSong$Shelf", "addRecording", "(III[II)I"⟩, 6) := ⟨⟨by decide +kernel, by decide +kernel⟩, List.mem_of_getElem? (i := 272) (by decide +kernel), List.mem_of_getElem? (i := 783) (by decide +kernel), List.mem_of_getElem? (i := 784) (by decide +kernel)⟩
theorem lw_p70 : lw_okq (⟨"LongSong$Shelf", "isRecording", "(I)Z"⟩, 6) := ⟨⟨by decide +kernel, by decide +kernel⟩, List.mem_of_getElem? (i := 272) (by decide +kernel), List.mem_of_getElem? (i := 792) (by decide +kernel), List.mem_of_getElem? (i := 793) (by decide +kernel)⟩
theorem lw_p71 : lw_okq (⟨"LongSong", "takeRecording", "(II)V"⟩, 8) := ⟨⟨by decide +kernel, by decide +kernel⟩, List.mem_of_getElem? (i := 14) (by decide +kernel), List.mem_of_getElem? (i := 796) (by decide +kernel), List.mem_of_getElem? (i := 797) (by decide +kernel)⟩
theorem lw_p72 : lw_okq (⟨"LongSong", "stockBehind", "(II)J"⟩, 8) := ⟨⟨by decide +kernel, by decide +kernel⟩, List.mem_of_getElem? (i := 14) (by decide +kernel), List.mem_of_getElem? (i := 800) (by decide +kernel), List.mem_of_getElem? (i := 801) (by decide +kernel)⟩
theorem lw_p73 : lw_okq (⟨"LongSong$Shelf", "lacking", "(IJ)I"⟩, 6) := ⟨⟨by decide +kernel, by decide +kernel⟩, List.mem_of_getElem? (i := 272) (by decide +kernel), List.mem_of_getElem? (i := 804) (by decide +kernel), List.mem_of_getElem? (i := 805) (by decide +kernel)⟩
theorem lw_p74 : lw_okq (⟨"LongSong$Shelf", "lostPlaces", "(I)I"⟩, 6) := ⟨⟨by decide +kernel, by decide +kernel⟩, List.mem_of_getElem? (i := 272) (by decide +kernel), List.mem_of_getElem? (i := 809) (by decide +kernel), List.mem_of_getElem? (i := 810) (by decide +kernel)⟩
theorem lw_p75 : lw_okq (⟨"LongSong$Shelf", "isLost", "(II)Z"⟩, 6) := ⟨⟨by decide +kernel, by decide +kernel⟩, List.mem_of_getElem? (i := 272) (by decide +kernel), List.mem_of_getElem? (i := 813) (by decide +kernel), List.mem_of_getElem? (i := 814) (by decide +kernel)⟩
theorem lw_p76 : lw_okq (⟨"LongSong$Reading", "onlyLine", "(II)I"⟩, 7) := ⟨⟨by decide +kernel, by decide +kernel⟩, List.mem_of_getElem? (i := 244) (by decide +kernel), List.mem_of_getElem? (i := 822) (by decide +kernel), List.mem_of_getElem? (i := 823) (by decide +kernel)⟩
theorem lw_p77 : lw_okq (⟨"LongSong$Reading", "allowOnly", "(II)V"⟩, 7) := ⟨⟨by decide +kernel, by decide +kernel⟩, List.mem_of_getElem? (i := 244) (by decide +kernel), List.mem_of_getElem? (i := 826) (by decide +kernel), List.mem_of_getElem? (i := 827) (by decide +kernel)⟩
theorem lw_p78 : lw_okq (⟨"LongSong$Verse", "scanning", "()I"⟩, 16) := ⟨⟨by decide +kernel, by decide +kernel⟩, List.mem_of_getElem? (i := 22) (by decide +kernel), List.mem_of_getElem? (i := 836) (by decide +kernel), List.mem_of_getElem? (i := 837) (by decide +kernel)⟩
theorem lw_p79 : lw_okq (⟨"LongSongModel", "isHalf", "(I)Z"⟩, 60) := ⟨⟨by decide +kernel, by decide +kernel⟩, List.mem_of_getElem? (i := 840) (by decide +kernel), List.mem_of_getElem? (i := 1048) (by decide +kernel), List.mem_of_getElem? (i := 1049) (by decide +kernel)⟩
def lw_privs_5 : List (MethodName × Nat) := [(⟨"LongSong$Reading", "lower", "()V"⟩, 7), (⟨"LongSong$Reading", "repeat", "()V"⟩, 7), (⟨"LongSong$Reading", "addTable", "(II)V"⟩, 7), (⟨"LongSong$Reading", "raise", "()V"⟩, 7), (⟨"LongSong$Book", "stockAround", "(I)J"⟩, 11), (⟨"LongSong$Shelf", "addRecording", "(III[II)I"⟩, 6), (⟨"LongSong$Shelf", "isRecording", "(I)Z"⟩, 6), (⟨"LongSong", "takeRecording", "(II)V"⟩, 8), (⟨"LongSong", "stockBehind", "(II)J"⟩, 8), (⟨"LongSong$Shelf", "lacking", "(IJ)I"⟩, 6), (⟨"LongSong$Shelf", "lostPlaces", "(I)I"⟩, 6), (⟨"LongSong$Shelf", "isLost", "(II)Z"⟩, 6), (⟨"LongSong$Reading", "onlyLine", "(II)I"⟩, 7), (⟨"LongSong$Reading", "allowOnly", "(II)V"⟩, 7), (⟨"LongSong$Verse", "scanning", "()I"⟩, 16), (⟨"LongSongModel", "isHalf", "(I)Z"⟩, 60)]
theorem lw_r5 : ∀ q ∈ lw_privs_5, lw_okq q := List.forall_mem_cons.mpr ⟨lw_p64, List.forall_mem_cons.mpr ⟨lw_p65, List.forall_mem_cons.mpr ⟨lw_p66, List.forall_mem_cons.mpr ⟨lw_p67, List.forall_mem_cons.mpr ⟨lw_p68, List.forall_mem_cons.mpr ⟨lw_p69, List.forall_mem_cons.mpr ⟨lw_p70, List.forall_mem_cons.mpr ⟨lw_p71, List.forall_mem_cons.mpr ⟨lw_p72, List.forall_mem_cons.mpr ⟨lw_p73, List.forall_mem_cons.mpr ⟨lw_p74, List.forall_mem_cons.mpr ⟨lw_p75, List.forall_mem_cons.mpr ⟨lw_p76, List.forall_mem_cons.mpr ⟨lw_p77, List.forall_mem_cons.mpr ⟨lw_p78, List.forall_mem_cons.mpr ⟨lw_p79, fun _ h => absurd h List.not_mem_nil⟩⟩⟩⟩⟩⟩⟩⟩⟩⟩⟩⟩⟩⟩⟩⟩
theorem lw_p80 : lw_okq (⟨"LongSongModel", "isLine", "(I)Z"⟩, 60) := ⟨⟨by decide +kernel, by decide +kernel⟩, List.mem_of_getElem? (i := 840) (by decide +kernel), List.mem_of_getElem? (i := 1064) (by decide +kernel), List.mem_of_getElem? (i := 1065) (by decide +kernel)⟩
theorem lw_p81 : lw_okq (⟨"LongSongModel", "scans", "(III)Z"⟩, 60) := ⟨⟨by decide +kernel, by decide +kernel⟩, List.mem_of_getElem? (i := 840) (by decide +kernel), List.mem_of_getElem? (i := 1068) (by decide +kernel), List.mem_of_getElem? (i := 1069) (by decide +kernel)⟩
theorem lw_p82 : lw_okq (⟨"LongSongModel", "longOf", "(II)I"⟩, 60) := ⟨⟨by decide +kernel, by decide +kernel⟩, List.mem_of_getElem? (i := 840) (by decide +kernel), List.mem_of_getElem? (i := 1072) (by decide +kernel), List.mem_of_getElem? (i := 1073) (by decide +kernel)⟩
theorem lw_p83 : lw_okq (⟨"LongSongModel", "heavyAll", "(III)I"⟩, 60) := ⟨⟨by decide +kernel, by decide +kernel⟩, List.mem_of_getElem? (i := 840) (by decide +kernel), List.mem_of_getElem? (i := 1076) (by decide +kernel), List.mem_of_getElem? (i := 1077) (by decide +kernel)⟩
theorem lw_p84 : lw_okq (⟨"LongSongModel", "heavyOf", "(II)I"⟩, 60) := ⟨⟨by decide +kernel, by decide +kernel⟩, List.mem_of_getElem? (i := 840) (by decide +kernel), List.mem_of_getElem? (i := 1080) (by decide +kernel), List.mem_of_getElem? (i := 1081) (by decide +kernel)⟩
theorem lw_p85 : lw_okq (⟨"LongSongModel", "mends", "(I)Z"⟩, 60) := ⟨⟨by decide +kernel, by decide +kernel⟩, List.mem_of_getElem? (i := 840) (by decide +kernel), List.mem_of_getElem? (i := 1088) (by decide +kernel), List.mem_of_getElem? (i := 1089) (by decide +kernel)⟩
theorem lw_p86 : lw_okq (⟨"LongSongModel", "sign", "()I"⟩, 60) := ⟨⟨by decide +kernel, by decide +kernel⟩, List.mem_of_getElem? (i := 840) (by decide +kernel), List.mem_of_getElem? (i := 1105) (by decide +kernel), List.mem_of_getElem? (i := 1106) (by decide +kernel)⟩
theorem lw_p87 : lw_okq (⟨"LongSongModel", "parses", "(I)Z"⟩, 60) := ⟨⟨by decide +kernel, by decide +kernel⟩, List.mem_of_getElem? (i := 840) (by decide +kernel), List.mem_of_getElem? (i := 1109) (by decide +kernel), List.mem_of_getElem? (i := 1110) (by decide +kernel)⟩
theorem lw_p88 : lw_okq (⟨"LongSongModel", "isTold", "(I)Z"⟩, 60) := ⟨⟨by decide +kernel, by decide +kernel⟩, List.mem_of_getElem? (i := 840) (by decide +kernel), List.mem_of_getElem? (i := 1119) (by decide +kernel), List.mem_of_getElem? (i := 1120) (by decide +kernel)⟩
theorem lw_p89 : lw_okq (⟨"LongSongModel", "standsInOther", "(I)Z"⟩, 60) := ⟨⟨by decide +kernel, by decide +kernel⟩, List.mem_of_getElem? (i := 840) (by decide +kernel), List.mem_of_getElem? (i := 1123) (by decide +kernel), List.mem_of_getElem? (i := 1124) (by decide +kernel)⟩
theorem lw_p90 : lw_okq (⟨"LongSongModel", "isSinger", "(I)Z"⟩, 60) := ⟨⟨by decide +kernel, by decide +kernel⟩, List.mem_of_getElem? (i := 840) (by decide +kernel), List.mem_of_getElem? (i := 1136) (by decide +kernel), List.mem_of_getElem? (i := 1137) (by decide +kernel)⟩
theorem lw_p91 : lw_okq (⟨"LongSongModel", "findStock", "(III)V"⟩, 60) := ⟨⟨by decide +kernel, by decide +kernel⟩, List.mem_of_getElem? (i := 840) (by decide +kernel), List.mem_of_getElem? (i := 1143) (by decide +kernel), List.mem_of_getElem? (i := 1144) (by decide +kernel)⟩
theorem lw_p92 : lw_okq (⟨"LongSongModel", "hasLine", "(IIII)Z"⟩, 60) := ⟨⟨by decide +kernel, by decide +kernel⟩, List.mem_of_getElem? (i := 840) (by decide +kernel), List.mem_of_getElem? (i := 1147) (by decide +kernel), List.mem_of_getElem? (i := 1148) (by decide +kernel)⟩
theorem lw_p93 : lw_okq (⟨"LongSongModel", "sings", "(I)Z"⟩, 60) := ⟨⟨by decide +kernel, by decide +kernel⟩, List.mem_of_getElem? (i := 840) (by decide +kernel), List.mem_of_getElem? (i := 1151) (by decide +kernel), List.mem_of_getElem? (i := 1152) (by decide +kernel)⟩
theorem lw_p94 : lw_okq (⟨"LongSongModel", "endFrom", "(II)I"⟩, 60) := ⟨⟨by decide +kernel, by decide +kernel⟩, List.mem_of_getElem? (i := 840) (by decide +kernel), List.mem_of_getElem? (i := 1155) (by decide +kernel), List.mem_of_getElem? (i := 1156) (by decide +kernel)⟩
theorem lw_p95 : lw_okq (⟨"LongSongModel", "chooses", "(I)I"⟩, 60) := ⟨⟨by decide +kernel, by decide +kernel⟩, List.mem_of_getElem? (i := 840) (by decide +kernel), List.mem_of_getElem? (i := 1159) (by decide +kernel), List.mem_of_getElem? (i := 1160) (by decide +kernel)⟩
def lw_privs_6 : List (MethodName × Nat) := [(⟨"LongSongModel", "isLine", "(I)Z"⟩, 60), (⟨"LongSongModel", "scans", "(III)Z"⟩, 60), (⟨"LongSongModel", "longOf", "(II)I"⟩, 60), (⟨"LongSongModel", "heavyAll", "(III)I"⟩, 60), (⟨"LongSongModel", "heavyOf", "(II)I"⟩, 60), (⟨"LongSongModel", "mends", "(I)Z"⟩, 60), (⟨"LongSongModel", "sign", "()I"⟩, 60), (⟨"LongSongModel", "parses", "(I)Z"⟩, 60), (⟨"LongSongModel", "isTold", "(I)Z"⟩, 60), (⟨"LongSongModel", "standsInOther", "(I)Z"⟩, 60), (⟨"LongSongModel", "isSinger", "(I)Z"⟩, 60), (⟨"LongSongModel", "findStock", "(III)V"⟩, 60), (⟨"LongSongModel", "hasLine", "(IIII)Z"⟩, 60), (⟨"LongSongModel", "sings", "(I)Z"⟩, 60), (⟨"LongSongModel", "endFrom", "(II)I"⟩, 60), (⟨"LongSongModel", "chooses", "(I)I"⟩, 60)]
theorem lw_r6 : ∀ q ∈ lw_privs_6, lw_okq q := List.forall_mem_cons.mpr ⟨lw_p80, List.forall_mem_cons.mpr ⟨lw_p81, List.forall_mem_cons.mpr ⟨lw_p82, List.forall_mem_cons.mpr ⟨lw_p83, List.forall_mem_cons.mpr ⟨lw_p84, List.forall_mem_cons.mpr ⟨lw_p85, List.forall_mem_cons.mpr ⟨lw_p86, List.forall_mem_cons.mpr ⟨lw_p87, List.forall_mem_cons.mpr ⟨lw_p88, List.forall_mem_cons.mpr ⟨lw_p89, List.forall_mem_cons.mpr ⟨lw_p90, List.forall_mem_cons.mpr ⟨lw_p91, List.forall_mem_cons.mpr ⟨lw_p92, List.forall_mem_cons.mpr ⟨lw_p93, List.forall_mem_cons.mpr ⟨lw_p94, List.forall_mem_cons.mpr ⟨lw_p95, fun _ h => absurd h List.not_mem_nil⟩⟩⟩⟩⟩⟩⟩⟩⟩⟩⟩⟩⟩⟩⟩⟩
theorem lw_p96 : lw_okq (⟨"LongSongModel", "behind", "(II)I"⟩, 60) := ⟨⟨by decide +kernel, by decide +kernel⟩, List.mem_of_getElem? (i := 840) (by decide +kernel), List.mem_of_getElem? (i := 1163) (by decide +kernel), List.mem_of_getElem? (i := 1164) (by decide +kernel)⟩
theorem lw_p97 : lw_okq (⟨"LongSongModel", "linesOf", "(I)I"⟩, 60) := ⟨⟨by decide +kernel, by decide +kernel⟩, List.mem_of_getElem? (i := 840) (by decide +kernel), List.mem_of_getElem? (i := 1167) (by decide +kernel), List.mem_of_getElem? (i := 1168) (by decide +kernel)⟩
theorem lw_p98 : lw_okq (⟨"LongSongModel", "lineOf", "(II)I"⟩, 60) := ⟨⟨by decide +kernel, by decide +kernel⟩, List.mem_of_getElem? (i := 840) (by decide +kernel), List.mem_of_getElem? (i := 1171) (by decide +kernel), List.mem_of_getElem? (i := 1172) (by decide +kernel)⟩
theorem lw_p99 : lw_okq (⟨"LongSongModel", "enters", "(IIIZ)I"⟩, 60) := ⟨⟨by decide +kernel, by decide +kernel⟩, List.mem_of_getElem? (i := 840) (by decide +kernel), List.mem_of_getElem? (i := 1192) (by decide +kernel), List.mem_of_getElem? (i := 1193) (by decide +kernel)⟩
theorem lw_p100 : lw_okq (⟨"LongSongModel", "isKnown", "(I)Z"⟩, 60) := ⟨⟨by decide +kernel, by decide +kernel⟩, List.mem_of_getElem? (i := 840) (by decide +kernel), List.mem_of_getElem? (i := 1204) (by decide +kernel), List.mem_of_getElem? (i := 1205) (by decide +kernel)⟩
theorem lw_p101 : lw_okq (⟨"LongSongModel", "upTo", "(I)I"⟩, 60) := ⟨⟨by decide +kernel, by decide +kernel⟩, List.mem_of_getElem? (i := 840) (by decide +kernel), List.mem_of_getElem? (i := 1208) (by decide +kernel), List.mem_of_getElem? (i := 1209) (by decide +kernel)⟩
theorem lw_p102 : lw_okq (⟨"LongSongModel", "unlikeBy", "(IIII)I"⟩, 60) := ⟨⟨by decide +kernel, by decide +kernel⟩, List.mem_of_getElem? (i := 840) (by decide +kernel), List.mem_of_getElem? (i := 1220) (by decide +kernel), List.mem_of_getElem? (i := 1221) (by decide +kernel)⟩
theorem lw_p103 : lw_okq (⟨"LongSongModel", "masterOf", "(III)I"⟩, 60) := ⟨⟨by decide +kernel, by decide +kernel⟩, List.mem_of_getElem? (i := 840) (by decide +kernel), List.mem_of_getElem? (i := 1228) (by decide +kernel), List.mem_of_getElem? (i := 1229) (by decide +kernel)⟩
theorem lw_p104 : lw_okq (⟨"LongSongModel", "sees", "([III)V"⟩, 60) := ⟨⟨by decide +kernel, by decide +kernel⟩, List.mem_of_getElem? (i := 840) (by decide +kernel), List.mem_of_getElem? (i := 1256) (by decide +kernel), List.mem_of_getElem? (i := 1257) (by decide +kernel)⟩
theorem lw_p105 : lw_okq (⟨"LongSongModel", "runsOf", "(I)I"⟩, 60) := ⟨⟨by decide +kernel, by decide +kernel⟩, List.mem_of_getElem? (i := 840) (by decide +kernel), List.mem_of_getElem? (i := 1260) (by decide +kernel), List.mem_of_getElem? (i := 1261) (by decide +kernel)⟩
theorem lw_p106 : lw_okq (⟨"LongSongModel", "findTable", "(I)V"⟩, 60) := ⟨⟨by decide +kernel, by decide +kernel⟩, List.mem_of_getElem? (i := 840) (by decide +kernel), List.mem_of_getElem? (i := 1264) (by decide +kernel), List.mem_of_getElem? (i := 1265) (by decide +kernel)⟩
theorem lw_p107 : lw_okq (⟨"LongSongModel", "begins", "()V"⟩, 60) := ⟨⟨by decide +kernel, by decide +kernel⟩, List.mem_of_getElem? (i := 840) (by decide +kernel), List.mem_of_getElem? (i := 1268) (by decide +kernel), List.mem_of_getElem? (i := 1269) (by decide +kernel)⟩
theorem lw_p108 : lw_okq (⟨"LongSongModel", "takesSlot", "(I)V"⟩, 60) := ⟨⟨by decide +kernel, by decide +kernel⟩, List.mem_of_getElem? (i := 840) (by decide +kernel), List.mem_of_getElem? (i := 1272) (by decide +kernel), List.mem_of_getElem? (i := 1273) (by decide +kernel)⟩
theorem lw_p109 : lw_okq (⟨"LongSongModel", "waysAt", "(II)I"⟩, 60) := ⟨⟨by decide +kernel, by decide +kernel⟩, List.mem_of_getElem? (i := 840) (by decide +kernel), List.mem_of_getElem? (i := 1276) (by decide +kernel), List.mem_of_getElem? (i := 1277) (by decide +kernel)⟩
theorem lw_p110 : lw_okq (⟨"LongSongModel", "times", "([II)V"⟩, 60) := ⟨⟨by decide +kernel, by decide +kernel⟩, List.mem_of_getElem? (i := 840) (by decide +kernel), List.mem_of_getElem? (i := 1285) (by decide +kernel), List.mem_of_getElem? (i := 1286) (by decide +kernel)⟩
theorem lw_p111 : lw_okq (⟨"LongSongModel", "closes", "(II)V"⟩, 60) := ⟨⟨by decide +kernel, by decide +kernel⟩, List.mem_of_getElem? (i := 840) (by decide +kernel), List.mem_of_getElem? (i := 1289) (by decide +kernel), List.mem_of_getElem? (i := 1290) (by decide +kernel)⟩
def lw_privs_7 : List (MethodName × Nat) := [(⟨"LongSongModel", "behind", "(II)I"⟩, 60), (⟨"LongSongModel", "linesOf", "(I)I"⟩, 60), (⟨"LongSongModel", "lineOf", "(II)I"⟩, 60), (⟨"LongSongModel", "enters", "(IIIZ)I"⟩, 60), (⟨"LongSongModel", "isKnown", "(I)Z"⟩, 60), (⟨"LongSongModel", "upTo", "(I)I"⟩, 60), (⟨"LongSongModel", "unlikeBy", "(IIII)I"⟩, 60), (⟨"LongSongModel", "masterOf", "(III)I"⟩, 60), (⟨"LongSongModel", "sees", "([III)V"⟩, 60), (⟨"LongSongModel", "runsOf", "(I)I"⟩, 60), (⟨"LongSongModel", "findTable", "(I)V"⟩, 60), (⟨"LongSongModel", "begins", "()V"⟩, 60), (⟨"LongSongModel", "takesSlot", "(I)V"⟩, 60), (⟨"LongSongModel", "waysAt", "(II)I"⟩, 60), (⟨"LongSongModel", "times", "([II)V"⟩, 60), (⟨"LongSongModel", "closes", "(II)V"⟩, 60)]
theorem lw_r7 : ∀ q ∈ lw_privs_7, lw_okq q := List.forall_mem_cons.mpr ⟨lw_p96, List.forall_mem_cons.mpr ⟨lw_p97, List.forall_mem_cons.mpr ⟨lw_p98, List.forall_mem_cons.mpr ⟨lw_p99, List.forall_mem_cons.mpr ⟨lw_p100, List.forall_mem_cons.mpr ⟨lw_p101, List.forall_mem_cons.mpr ⟨lw_p102, List.forall_mem_cons.mpr ⟨lw_p103, List.forall_mem_cons.mpr ⟨lw_p104, List.forall_mem_cons.mpr ⟨lw_p105, List.forall_mem_cons.mpr ⟨lw_p106, List.forall_mem_cons.mpr ⟨lw_p107, List.forall_mem_cons.mpr ⟨lw_p108, List.forall_mem_cons.mpr ⟨lw_p109, List.forall_mem_cons.mpr ⟨lw_p110, List.forall_mem_cons.mpr ⟨lw_p111, fun _ h => absurd h List.not_mem_nil⟩⟩⟩⟩⟩⟩⟩⟩⟩⟩⟩⟩⟩⟩⟩⟩
theorem lw_p112 : lw_okq (⟨"LongSongModel", "goesBehind", "(I)V"⟩, 60) := ⟨⟨by decide +kernel, by decide +kernel⟩, List.mem_of_getElem? (i := 840) (by decide +kernel), List.mem_of_getElem? (i := 1293) (by decide +kernel), List.mem_of_getElem? (i := 1294) (by decide +kernel)⟩
theorem lw_p113 : lw_okq (⟨"LongSongModel", "isForged", "(IIII)Z"⟩, 60) := ⟨⟨by decide +kernel, by decide +kernel⟩, List.mem_of_getElem? (i := 840) (by decide +kernel), List.mem_of_getElem? (i := 1301) (by decide +kernel), List.mem_of_getElem? (i := 1302) (by decide +kernel)⟩
theorem lw_p114 : lw_okq (⟨"LongSongModel", "isRecording", "(I)Z"⟩, 60) := ⟨⟨by decide +kernel, by decide +kernel⟩, List.mem_of_getElem? (i := 840) (by decide +kernel), List.mem_of_getElem? (i := 1313) (by decide +kernel), List.mem_of_getElem? (i := 1314) (by decide +kernel)⟩
theorem lw_p115 : lw_okq (⟨"LongSongModel", "plays", "(II)V"⟩, 60) := ⟨⟨by decide +kernel, by decide +kernel⟩, List.mem_of_getElem? (i := 840) (by decide +kernel), List.mem_of_getElem? (i := 1317) (by decide +kernel), List.mem_of_getElem? (i := 1318) (by decide +kernel)⟩
def lw_privs_8 : List (MethodName × Nat) := [(⟨"LongSongModel", "goesBehind", "(I)V"⟩, 60), (⟨"LongSongModel", "isForged", "(IIII)Z"⟩, 60), (⟨"LongSongModel", "isRecording", "(I)Z"⟩, 60), (⟨"LongSongModel", "plays", "(II)V"⟩, 60)]
theorem lw_r8 : ∀ q ∈ lw_privs_8, lw_okq q := List.forall_mem_cons.mpr ⟨lw_p112, List.forall_mem_cons.mpr ⟨lw_p113, List.forall_mem_cons.mpr ⟨lw_p114, List.forall_mem_cons.mpr ⟨lw_p115, fun _ h => absurd h List.not_mem_nil⟩⟩⟩⟩
def lw_privs : List (MethodName × Nat) := lw_privs_1 ++ (lw_privs_2 ++ (lw_privs_3 ++ (lw_privs_4 ++ (lw_privs_5 ++ (lw_privs_6 ++ (lw_privs_7 ++ (lw_privs_8)))))))
def lw_tbl : List Cond := k2_sels lw_privs ++ tables_1
theorem lw_privs_ok : ∀ q ∈ lw_privs, lw_okq q := by
  show ∀ q ∈ lw_privs_1 ++ (lw_privs_2 ++ (lw_privs_3 ++ (lw_privs_4 ++ (lw_privs_5 ++ (lw_privs_6 ++ (lw_privs_7 ++ (lw_privs_8))))))), lw_okq q
  exact List.forall_mem_append.mpr ⟨lw_r1, List.forall_mem_append.mpr ⟨lw_r2, List.forall_mem_append.mpr ⟨lw_r3, List.forall_mem_append.mpr ⟨lw_r4, List.forall_mem_append.mpr ⟨lw_r5, List.forall_mem_append.mpr ⟨lw_r6, List.forall_mem_append.mpr ⟨lw_r7, lw_r8⟩⟩⟩⟩⟩⟩⟩
end
section
def RX0 : String := "LongSong$Book"
def TX0 : u_T := fun k => match k with
  | 0 => ("LongSong$Book", "born", "[I", true)
  | 1 => ("LongSong$Book", "home", "[I", true)
  | 2 => ("LongSong$Book", "singers", "I", false)
  | 3 => ("LongSong$Book", "who", "[I", true)
  | 4 => ("LongSong$Book", "which", "[I", true)
  | 5 => ("LongSong$Book", "when", "[I", true)
  | 6 => ("LongSong$Book", "learnt", "[Z", true)
  | 7 => ("LongSong$Book", "entries", "I", false)
  | 8 => ("LongSong$Book", "newest", "[I", true)
  | 9 => ("LongSong$Book", "stocks", "[J", true)
  | _ => ("LongSong$Book", "having", "[I", true)
def tyX0 : Nat → FieldType := fun k => match k with
  | 0 => .array .int
  | 1 => .array .int
  | 2 => .int
  | 3 => .array .int
  | 4 => .array .int
  | 5 => .array .int
  | 6 => .array .boolean
  | 7 => .int
  | 8 => .array .int
  | 9 => .array .long
  | _ => .array .int
abbrev wsX00 : List Cond := u_ws RX0 TX0 11
theorem nmX0 : ∀ a, a < 11 → ∀ b, b < 11 → a ≠ b → (TX0 a).2.1 ≠ (TX0 b).2.1 := by decide +kernel
theorem tyX0_ok : ∀ k, k < 11 → parseFieldDescriptor (TX0 k).2.2.1 = some (tyX0 k) := by decide +kernel
abbrev cX0_init : ByteArray := prog_2_method_1_code
def yX0_init : MethodName := ⟨RX0, "<init>", "()V"⟩
abbrev cX0_isSinger : ByteArray := prog_2_method_2_code
def yX0_isSinger : MethodName := ⟨RX0, "isSinger", "(I)Z"⟩
abbrev cX0_isKnown : ByteArray := prog_2_method_3_code
def yX0_isKnown : MethodName := ⟨RX0, "isKnown", "(I)Z"⟩
abbrev cX0_addSinger : ByteArray := prog_2_method_4_code
def yX0_addSinger : MethodName := ⟨RX0, "addSinger", "(I)I"⟩
abbrev cX0_enter : ByteArray := prog_2_method_5_code
def yX0_enter : MethodName := ⟨RX0, "enter", "(IIIZ)I"⟩
abbrev cX0_stockOf : ByteArray := prog_2_method_6_code
def yX0_stockOf : MethodName := ⟨RX0, "stockOf", "(III)J"⟩
abbrev cX0_openAt : ByteArray := prog_2_method_7_code
def yX0_openAt : MethodName := ⟨RX0, "openAt", "(II)V"⟩
abbrev cX0_changes : ByteArray := prog_2_method_8_code
def yX0_changes : MethodName := ⟨RX0, "changes", "(II)I"⟩
abbrev cX0_masterOf : ByteArray := prog_2_method_9_code
def yX0_masterOf : MethodName := ⟨RX0, "masterOf", "(I)I"⟩
abbrev cX0_isNearer : ByteArray := prog_2_method_10_code
def yX0_isNearer : MethodName := ⟨RX0, "isNearer", "(III)Z"⟩
abbrev cX0_masterStock : ByteArray := prog_2_method_11_code
def yX0_masterStock : MethodName := ⟨RX0, "masterStock", "(I)J"⟩
abbrev cX0_stockAround : ByteArray := prog_2_method_12_code
def yX0_stockAround : MethodName := ⟨RX0, "stockAround", "(I)J"⟩
abbrev cX0_commonStock : ByteArray := prog_2_method_13_code
def yX0_commonStock : MethodName := ⟨RX0, "commonStock", "()J"⟩
abbrev cX0_villageWithMost : ByteArray := prog_2_method_14_code
def yX0_villageWithMost : MethodName := ⟨RX0, "villageWithMost", "(I)I"⟩
def RX1 : String := "LongSong$Reading"
def TX1 : u_T := fun k => match k with
  | 0 => ("LongSong$Reading", "verse", "LLongSong$Verse;", true)
  | 1 => ("LongSong$Reading", "scenes", "LLongSong$Scenes;", true)
  | 2 => ("LongSong$Reading", "cells", "[I", true)
  | 3 => ("LongSong$Reading", "weights", "[I", true)
  | 4 => ("LongSong$Reading", "stock", "J", false)
  | 5 => ("LongSong$Reading", "length", "I", false)
  | _ => ("LongSong$Reading", "top", "I", false)
def tyX1 : Nat → FieldType := fun k => match k with
  | 0 => .object "LongSong$Verse"
  | 1 => .object "LongSong$Scenes"
  | 2 => .array .int
  | 3 => .array .int
  | 4 => .long
  | 5 => .int
  | _ => .int
abbrev wsX10 : List Cond := u_ws RX1 TX1 7
theorem nmX1 : ∀ a, a < 7 → ∀ b, b < 7 → a ≠ b → (TX1 a).2.1 ≠ (TX1 b).2.1 := by decide +kernel
theorem tyX1_ok : ∀ k, k < 7 → parseFieldDescriptor (TX1 k).2.2.1 = some (tyX1 k) := by decide +kernel
abbrev cX1_init : ByteArray := prog_3_method_1_code
def yX1_init : MethodName := ⟨RX1, "<init>", "(LLongSong$Verse;LLongSong$Scenes;)V"⟩
abbrev cX1_take : ByteArray := prog_3_method_2_code
def yX1_take : MethodName := ⟨RX1, "take", "([IIIJ)V"⟩
abbrev cX1_allowOnly : ByteArray := prog_3_method_3_code
def yX1_allowOnly : MethodName := ⟨RX1, "allowOnly", "(II)V"⟩
abbrev cX1_ways : ByteArray := prog_3_method_4_code
def yX1_ways : MethodName := ⟨RX1, "ways", "(I)I"⟩
abbrev cX1_onlyLine : ByteArray := prog_3_method_5_code
def yX1_onlyLine : MethodName := ⟨RX1, "onlyLine", "(II)I"⟩
abbrev cX1_fillTable : ByteArray := prog_3_method_6_code
def yX1_fillTable : MethodName := ⟨RX1, "fillTable", "(I)V"⟩
abbrev cX1_readSign : ByteArray := prog_3_method_7_code
def yX1_readSign : MethodName := ⟨RX1, "readSign", "(I)V"⟩
abbrev cX1_raise : ByteArray := prog_3_method_8_code
def yX1_raise : MethodName := ⟨RX1, "raise", "()V"⟩
abbrev cX1_lower : ByteArray := prog_3_method_9_code
def yX1_lower : MethodName := ⟨RX1, "lower", "()V"⟩
abbrev cX1_close : ByteArray := prog_3_method_10_code
def yX1_close : MethodName := ⟨RX1, "close", "()V"⟩
abbrev cX1_repeat : ByteArray := prog_3_method_11_code
def yX1_repeat : MethodName := ⟨RX1, "repeat", "()V"⟩
abbrev cX1_cell : ByteArray := prog_3_method_12_code
def yX1_cell : MethodName := ⟨RX1, "cell", "(III)I"⟩
abbrev cX1_cellsInUse : ByteArray := prog_3_method_13_code
def yX1_cellsInUse : MethodName := ⟨RX1, "cellsInUse", "()I"⟩
abbrev cX1_clear : ByteArray := prog_3_method_14_code
def yX1_clear : MethodName := ⟨RX1, "clear", "(I)V"⟩
abbrev cX1_addOne : ByteArray := prog_3_method_15_code
def yX1_addOne : MethodName := ⟨RX1, "addOne", "(I)V"⟩
abbrev cX1_addTable : ByteArray := prog_3_method_16_code
def yX1_addTable : MethodName := ⟨RX1, "addTable", "(II)V"⟩
abbrev cX1_followBySlot : ByteArray := prog_3_method_17_code
def yX1_followBySlot : MethodName := ⟨RX1, "followBySlot", "(I)V"⟩
abbrev cX1_multiply : ByteArray := prog_3_method_18_code
def yX1_multiply : MethodName := ⟨RX1, "multiply", "(II)V"⟩
def RX2 : String := "LongSong$Scenes"
def TX2 : u_T := fun k => match k with
  | 0 => ("LongSong$Scenes", "tape", "[I", true)
  | 1 => ("LongSong$Scenes", "tapeSize", "I", false)
  | 2 => ("LongSong$Scenes", "mate", "[I", true)
  | 3 => ("LongSong$Scenes", "open", "[I", true)
  | 4 => ("LongSong$Scenes", "depth", "I", false)
  | 5 => ("LongSong$Scenes", "some", "Z", false)
  | 6 => ("LongSong$Scenes", "text", "[I", true)
  | 7 => ("LongSong$Scenes", "mates", "[I", true)
  | 8 => ("LongSong$Scenes", "size", "[I", true)
  | 9 => ("LongSong$Scenes", "uses", "[I", true)
  | 10 => ("LongSong$Scenes", "order", "[I", true)
  | 11 => ("LongSong$Scenes", "told", "I", false)
  | _ => ("LongSong$Scenes", "fullness", "I", false)
def tyX2 : Nat → FieldType := fun k => match k with
  | 0 => .array .int
  | 1 => .int
  | 2 => .array .int
  | 3 => .array .int
  | 4 => .int
  | 5 => .boolean
  | 6 => .array .int
  | 7 => .array .int
  | 8 => .array .int
  | 9 => .array .int
  | 10 => .array .int
  | 11 => .int
  | _ => .int
abbrev wsX20 : List Cond := u_ws RX2 TX2 13
theorem nmX2 : ∀ a, a < 13 → ∀ b, b < 13 → a ≠ b → (TX2 a).2.1 ≠ (TX2 b).2.1 := by decide +kernel
theorem tyX2_ok : ∀ k, k < 13 → parseFieldDescriptor (TX2 k).2.2.1 = some (tyX2 k) := by decide +kernel
abbrev cX2_init : ByteArray := prog_4_method_1_code
def yX2_init : MethodName := ⟨RX2, "<init>", "()V"⟩
abbrev cX2_isTold : ByteArray := prog_4_method_2_code
def yX2_isTold : MethodName := ⟨RX2, "isTold", "(I)Z"⟩
abbrev cX2_sign : ByteArray := prog_4_method_3_code
def yX2_sign : MethodName := ⟨RX2, "sign", "(II)I"⟩
abbrev cX2_mateOf : ByteArray := prog_4_method_4_code
def yX2_mateOf : MethodName := ⟨RX2, "mateOf", "(II)I"⟩
abbrev cX2_append : ByteArray := prog_4_method_5_code
def yX2_append : MethodName := ⟨RX2, "append", "(JI)I"⟩
abbrev cX2_tellTape : ByteArray := prog_4_method_6_code
def yX2_tellTape : MethodName := ⟨RX2, "tellTape", "()I"⟩
abbrev cX2_readTape : ByteArray := prog_4_method_7_code
def yX2_readTape : MethodName := ⟨RX2, "readTape", "()I"⟩
abbrev cX2_misfit : ByteArray := prog_4_method_8_code
def yX2_misfit : MethodName := ⟨RX2, "misfit", "()I"⟩
abbrev cX2_goesOn : ByteArray := prog_4_method_9_code
def yX2_goesOn : MethodName := ⟨RX2, "goesOn", "(I)Z"⟩
abbrev cX2_opens : ByteArray := prog_4_method_10_code
def yX2_opens : MethodName := ⟨RX2, "opens", "(I)Z"⟩
abbrev cX2_closes : ByteArray := prog_4_method_11_code
def yX2_closes : MethodName := ⟨RX2, "closes", "(II)Z"⟩
abbrev cX2_closer : ByteArray := prog_4_method_12_code
def yX2_closer : MethodName := ⟨RX2, "closer", "(I)I"⟩
abbrev cX2_untold : ByteArray := prog_4_method_13_code
def yX2_untold : MethodName := ⟨RX2, "untold", "(I)I"⟩
abbrev cX2_standsInAnother : ByteArray := prog_4_method_14_code
def yX2_standsInAnother : MethodName := ⟨RX2, "standsInAnother", "(I)Z"⟩
abbrev cX2_keep : ByteArray := prog_4_method_15_code
def yX2_keep : MethodName := ⟨RX2, "keep", "(I)V"⟩
abbrev cX2_putLast : ByteArray := prog_4_method_16_code
def yX2_putLast : MethodName := ⟨RX2, "putLast", "(I)V"⟩
abbrev cX2_within : ByteArray := prog_4_method_17_code
def yX2_within : MethodName := ⟨RX2, "within", "(I)I"⟩
def RX3 : String := "LongSong$Shelf"
def TX3 : u_T := fun k => match k with
  | 0 => ("LongSong$Shelf", "singer", "[I", true)
  | 1 => ("LongSong$Shelf", "scene", "[I", true)
  | 2 => ("LongSong$Shelf", "year", "[I", true)
  | 3 => ("LongSong$Shelf", "size", "[I", true)
  | 4 => ("LongSong$Shelf", "rows", "[I", true)
  | _ => ("LongSong$Shelf", "recordings", "I", false)
def tyX3 : Nat → FieldType := fun k => match k with
  | 0 => .array .int
  | 1 => .array .int
  | 2 => .array .int
  | 3 => .array .int
  | 4 => .array .int
  | _ => .int
abbrev wsX30 : List Cond := u_ws RX3 TX3 6
theorem nmX3 : ∀ a, a < 6 → ∀ b, b < 6 → a ≠ b → (TX3 a).2.1 ≠ (TX3 b).2.1 := by decide +kernel
theorem tyX3_ok : ∀ k, k < 6 → parseFieldDescriptor (TX3 k).2.2.1 = some (tyX3 k) := by decide +kernel
abbrev cX3_init : ByteArray := prog_5_method_1_code
def yX3_init : MethodName := ⟨RX3, "<init>", "()V"⟩
abbrev cX3_isRecording : ByteArray := prog_5_method_2_code
def yX3_isRecording : MethodName := ⟨RX3, "isRecording", "(I)Z"⟩
abbrev cX3_addRecording : ByteArray := prog_5_method_3_code
def yX3_addRecording : MethodName := ⟨RX3, "addRecording", "(III[II)I"⟩
abbrev cX3_isLost : ByteArray := prog_5_method_4_code
def yX3_isLost : MethodName := ⟨RX3, "isLost", "(II)Z"⟩
abbrev cX3_lostPlaces : ByteArray := prog_5_method_5_code
def yX3_lostPlaces : MethodName := ⟨RX3, "lostPlaces", "(I)I"⟩
abbrev cX3_lacking : ByteArray := prog_5_method_6_code
def yX3_lacking : MethodName := ⟨RX3, "lacking", "(IJ)I"⟩
def RX4 : String := "LongSong$Singing"
def TX4 : u_T := fun k => match k with
  | 0 => ("LongSong$Singing", "verse", "LLongSong$Verse;", true)
  | 1 => ("LongSong$Singing", "scenes", "LLongSong$Scenes;", true)
  | 2 => ("LongSong$Singing", "song", "[I", true)
  | 3 => ("LongSong$Singing", "kept", "I", false)
  | 4 => ("LongSong$Singing", "draft", "[I", true)
  | 5 => ("LongSong$Singing", "drafted", "I", false)
  | 6 => ("LongSong$Singing", "waiting", "[I", true)
  | 7 => ("LongSong$Singing", "waits", "I", false)
  | 8 => ("LongSong$Singing", "here", "I", false)
  | 9 => ("LongSong$Singing", "at", "I", false)
  | 10 => ("LongSong$Singing", "items", "I", false)
  | 11 => ("LongSong$Singing", "stock", "J", false)
  | _ => ("LongSong$Singing", "number", "J", false)
def tyX4 : Nat → FieldType := fun k => match k with
  | 0 => .object "LongSong$Verse"
  | 1 => .object "LongSong$Scenes"
  | 2 => .array .int
  | 3 => .int
  | 4 => .array .int
  | 5 => .int
  | 6 => .array .int
  | 7 => .int
  | 8 => .int
  | 9 => .int
  | 10 => .int
  | 11 => .long
  | _ => .long
abbrev wsX40 : List Cond := u_ws RX4 TX4 13
theorem nmX4 : ∀ a, a < 13 → ∀ b, b < 13 → a ≠ b → (TX4 a).2.1 ≠ (TX4 b).2.1 := by decide +kernel
theorem tyX4_ok : ∀ k, k < 13 → parseFieldDescriptor (TX4 k).2.2.1 = some (tyX4 k) := by decide +kernel
abbrev cX4_init : ByteArray := prog_6_method_1_code
def yX4_init : MethodName := ⟨RX4, "<init>", "(LLongSong$Verse;LLongSong$Scenes;)V"⟩
abbrev cX4_perform : ByteArray := prog_6_method_2_code
def yX4_perform : MethodName := ⟨RX4, "perform", "(IJJ)Z"⟩
abbrev cX4_keepSong : ByteArray := prog_6_method_3_code
def yX4_keepSong : MethodName := ⟨RX4, "keepSong", "()Z"⟩
abbrev cX4_enterScene : ByteArray := prog_6_method_4_code
def yX4_enterScene : MethodName := ⟨RX4, "enterScene", "(I)V"⟩
abbrev cX4_goBack : ByteArray := prog_6_method_5_code
def yX4_goBack : MethodName := ⟨RX4, "goBack", "()V"⟩
abbrev cX4_await : ByteArray := prog_6_method_6_code
def yX4_await : MethodName := ⟨RX4, "await", "(I)Z"⟩
abbrev cX4_takeSign : ByteArray := prog_6_method_7_code
def yX4_takeSign : MethodName := ⟨RX4, "takeSign", "(I)Z"⟩
abbrev cX4_takeItem : ByteArray := prog_6_method_8_code
def yX4_takeItem : MethodName := ⟨RX4, "takeItem", "(I)Z"⟩
abbrev cX4_again : ByteArray := prog_6_method_9_code
def yX4_again : MethodName := ⟨RX4, "again", "()Z"⟩
abbrev cX4_singLine : ByteArray := prog_6_method_10_code
def yX4_singLine : MethodName := ⟨RX4, "singLine", "(I)Z"⟩
abbrev cX4_choose : ByteArray := prog_6_method_11_code
def yX4_choose : MethodName := ⟨RX4, "choose", "(I)I"⟩
def RX5 : String := "LongSong$Verse"
def TX5 : u_T := fun k => match k with
  | 0 => ("LongSong$Verse", "halfBeats", "[I", true)
  | 1 => ("LongSong$Verse", "halfHeavy", "[I", true)
  | 2 => ("LongSong$Verse", "halfGap", "[I", true)
  | 3 => ("LongSong$Verse", "halves", "I", false)
  | 4 => ("LongSong$Verse", "nameBeats", "[I", true)
  | 5 => ("LongSong$Verse", "nameHeavy", "[I", true)
  | 6 => ("LongSong$Verse", "lineFirst", "[I", true)
  | 7 => ("LongSong$Verse", "lineSecond", "[I", true)
  | 8 => ("LongSong$Verse", "lineSlot", "[I", true)
  | 9 => ("LongSong$Verse", "lineHero", "[I", true)
  | 10 => ("LongSong$Verse", "bySlot", "[J", true)
  | 11 => ("LongSong$Verse", "slips", "J", false)
  | 12 => ("LongSong$Verse", "lines", "I", false)
  | 13 => ("LongSong$Verse", "measure", "[I", true)
  | 14 => ("LongSong$Verse", "brokenLines", "[I", true)
  | _ => ("LongSong$Verse", "brokenCount", "I", false)
def tyX5 : Nat → FieldType := fun k => match k with
  | 0 => .array .int
  | 1 => .array .int
  | 2 => .array .int
  | 3 => .int
  | 4 => .array .int
  | 5 => .array .int
  | 6 => .array .int
  | 7 => .array .int
  | 8 => .array .int
  | 9 => .array .int
  | 10 => .array .long
  | 11 => .long
  | 12 => .int
  | 13 => .array .int
  | 14 => .array .int
  | _ => .int
abbrev wsX50 : List Cond := u_ws RX5 TX5 16
theorem nmX5 : ∀ a, a < 16 → ∀ b, b < 16 → a ≠ b → (TX5 a).2.1 ≠ (TX5 b).2.1 := by decide +kernel
theorem tyX5_ok : ∀ k, k < 16 → parseFieldDescriptor (TX5 k).2.2.1 = some (tyX5 k) := by decide +kernel
abbrev cX5_init : ByteArray := prog_7_method_1_code
def yX5_init : MethodName := ⟨RX5, "<init>", "()V"⟩
abbrev cX5_isHalf : ByteArray := prog_7_method_2_code
def yX5_isHalf : MethodName := ⟨RX5, "isHalf", "(I)Z"⟩
abbrev cX5_isLine : ByteArray := prog_7_method_3_code
def yX5_isLine : MethodName := ⟨RX5, "isLine", "(I)Z"⟩
abbrev cX5_addHalf : ByteArray := prog_7_method_4_code
def yX5_addHalf : MethodName := ⟨RX5, "addHalf", "(III)I"⟩
abbrev cX5_addLine : ByteArray := prog_7_method_5_code
def yX5_addLine : MethodName := ⟨RX5, "addLine", "(IIIII)I"⟩
abbrev cX5_sungBeats : ByteArray := prog_7_method_6_code
def yX5_sungBeats : MethodName := ⟨RX5, "sungBeats", "(II)I"⟩
abbrev cX5_sungHeavy : ByteArray := prog_7_method_7_code
def yX5_sungHeavy : MethodName := ⟨RX5, "sungHeavy", "(II)I"⟩
abbrev cX5_lineBeats : ByteArray := prog_7_method_8_code
def yX5_lineBeats : MethodName := ⟨RX5, "lineBeats", "(I)I"⟩
abbrev cX5_lineHeavy : ByteArray := prog_7_method_9_code
def yX5_lineHeavy : MethodName := ⟨RX5, "lineHeavy", "(I)I"⟩
abbrev cX5_fitsFirst : ByteArray := prog_7_method_10_code
def yX5_fitsFirst : MethodName := ⟨RX5, "fitsFirst", "(II)Z"⟩
abbrev cX5_fitsSecond : ByteArray := prog_7_method_11_code
def yX5_fitsSecond : MethodName := ⟨RX5, "fitsSecond", "(II)Z"⟩
abbrev cX5_scans : ByteArray := prog_7_method_12_code
def yX5_scans : MethodName := ⟨RX5, "scans", "(I)Z"⟩
abbrev cX5_scanning : ByteArray := prog_7_method_13_code
def yX5_scanning : MethodName := ⟨RX5, "scanning", "()I"⟩
abbrev cX5_leastFirst : ByteArray := prog_7_method_14_code
def yX5_leastFirst : MethodName := ⟨RX5, "leastFirst", "(I)I"⟩
abbrev cX5_leastSecond : ByteArray := prog_7_method_15_code
def yX5_leastSecond : MethodName := ⟨RX5, "leastSecond", "(I)I"⟩
abbrev cX5_putInPlace : ByteArray := prog_7_method_16_code
def yX5_putInPlace : MethodName := ⟨RX5, "putInPlace", "(II)I"⟩
abbrev cX5_mend : ByteArray := prog_7_method_17_code
def yX5_mend : MethodName := ⟨RX5, "mend", "(III)Z"⟩
abbrev cX5_noteBroken : ByteArray := prog_7_method_18_code
def yX5_noteBroken : MethodName := ⟨RX5, "noteBroken", "(I)V"⟩
def RX6 : String := "LongSong"
def TX6 : u_T := fun k => match k with
  | 0 => ("LongSong", "verse", "LLongSong$Verse;", true)
  | 1 => ("LongSong", "scenes", "LLongSong$Scenes;", true)
  | 2 => ("LongSong", "book", "LLongSong$Book;", true)
  | 3 => ("LongSong", "singing", "LLongSong$Singing;", true)
  | 4 => ("LongSong", "reading", "LLongSong$Reading;", true)
  | 5 => ("LongSong", "shelf", "LLongSong$Shelf;", true)
  | 6 => ("LongSong", "gathered", "[I", true)
  | _ => ("LongSong", "gatheredSize", "I", false)
def tyX6 : Nat → FieldType := fun k => match k with
  | 0 => .object "LongSong$Verse"
  | 1 => .object "LongSong$Scenes"
  | 2 => .object "LongSong$Book"
  | 3 => .object "LongSong$Singing"
  | 4 => .object "LongSong$Reading"
  | 5 => .object "LongSong$Shelf"
  | 6 => .array .int
  | _ => .int
abbrev wsX60 : List Cond := u_ws RX6 TX6 8
theorem nmX6 : ∀ a, a < 8 → ∀ b, b < 8 → a ≠ b → (TX6 a).2.1 ≠ (TX6 b).2.1 := by decide +kernel
theorem tyX6_ok : ∀ k, k < 8 → parseFieldDescriptor (TX6 k).2.2.1 = some (tyX6 k) := by decide +kernel
abbrev cX6_init : ByteArray := prog_1_method_1_code
def yX6_init : MethodName := ⟨RX6, "<init>", "()V"⟩
abbrev cX6_half : ByteArray := prog_1_method_2_code
def yX6_half : MethodName := ⟨RX6, "half", "(III)I"⟩
abbrev cX6_name : ByteArray := prog_1_method_3_code
def yX6_name : MethodName := ⟨RX6, "name", "(III)I"⟩
abbrev cX6_line : ByteArray := prog_1_method_4_code
def yX6_line : MethodName := ⟨RX6, "line", "(IIIII)I"⟩
abbrev cX6_metre : ByteArray := prog_1_method_5_code
def yX6_metre : MethodName := ⟨RX6, "metre", "(II)I"⟩
abbrev cX6_told : ByteArray := prog_1_method_6_code
def yX6_told : MethodName := ⟨RX6, "told", "(II)I"⟩
abbrev cX6_swap : ByteArray := prog_1_method_7_code
def yX6_swap : MethodName := ⟨RX6, "swap", "(II)I"⟩
abbrev cX6_broken : ByteArray := prog_1_method_8_code
def yX6_broken : MethodName := ⟨RX6, "broken", "(I)I"⟩
abbrev cX6_feed : ByteArray := prog_1_method_9_code
def yX6_feed : MethodName := ⟨RX6, "feed", "(JI)I"⟩
abbrev cX6_scene : ByteArray := prog_1_method_10_code
def yX6_scene : MethodName := ⟨RX6, "scene", "()I"⟩
abbrev cX6_hall : ByteArray := prog_1_method_11_code
def yX6_hall : MethodName := ⟨RX6, "hall", "(I)I"⟩
abbrev cX6_sing : ByteArray := prog_1_method_12_code
def yX6_sing : MethodName := ⟨RX6, "sing", "(IIIJ)I"⟩
abbrev cX6_sung : ByteArray := prog_1_method_13_code
def yX6_sung : MethodName := ⟨RX6, "sung", "(I)I"⟩
abbrev cX6_singer : ByteArray := prog_1_method_14_code
def yX6_singer : MethodName := ⟨RX6, "singer", "(I)I"⟩
abbrev cX6_village : ByteArray := prog_1_method_15_code
def yX6_village : MethodName := ⟨RX6, "village", "(II)I"⟩
abbrev cX6_learn : ByteArray := prog_1_method_16_code
def yX6_learn : MethodName := ⟨RX6, "learn", "(IIII)I"⟩
abbrev cX6_forget : ByteArray := prog_1_method_17_code
def yX6_forget : MethodName := ⟨RX6, "forget", "(III)I"⟩
abbrev cX6_has : ByteArray := prog_1_method_18_code
def yX6_has : MethodName := ⟨RX6, "has", "(IIII)I"⟩
abbrev cX6_stock : ByteArray := prog_1_method_19_code
def yX6_stock : MethodName := ⟨RX6, "stock", "(III)I"⟩
abbrev cX6_unlike : ByteArray := prog_1_method_20_code
def yX6_unlike : MethodName := ⟨RX6, "unlike", "(IIII)I"⟩
abbrev cX6_master : ByteArray := prog_1_method_21_code
def yX6_master : MethodName := ⟨RX6, "master", "(III)I"⟩
abbrev cX6_lineage : ByteArray := prog_1_method_22_code
def yX6_lineage : MethodName := ⟨RX6, "lineage", "(II)I"⟩
abbrev cX6_loan : ByteArray := prog_1_method_23_code
def yX6_loan : MethodName := ⟨RX6, "loan", "(IIII)I"⟩
abbrev cX6_core : ByteArray := prog_1_method_24_code
def yX6_core : MethodName := ⟨RX6, "core", "(III)I"⟩
abbrev cX6_whose : ByteArray := prog_1_method_25_code
def yX6_whose : MethodName := ⟨RX6, "whose", "(III)I"⟩
abbrev cX6_put : ByteArray := prog_1_method_26_code
def yX6_put : MethodName := ⟨RX6, "put", "(II)I"⟩
abbrev cX6_runs : ByteArray := prog_1_method_27_code
def yX6_runs : MethodName := ⟨RX6, "runs", "(IIII)I"⟩
abbrev cX6_forged : ByteArray := prog_1_method_28_code
def yX6_forged : MethodName := ⟨RX6, "forged", "(III)I"⟩
abbrev cX6_record : ByteArray := prog_1_method_29_code
def yX6_record : MethodName := ⟨RX6, "record", "(III)I"⟩
abbrev cX6_heard : ByteArray := prog_1_method_30_code
def yX6_heard : MethodName := ⟨RX6, "heard", "(III)I"⟩
abbrev cX6_filled : ByteArray := prog_1_method_31_code
def yX6_filled : MethodName := ⟨RX6, "filled", "(III)I"⟩
abbrev cX6_count : ByteArray := prog_1_method_32_code
def yX6_count : MethodName := ⟨RX6, "count", "(I)I"⟩
abbrev cX6_stockBehind : ByteArray := prog_1_method_33_code
def yX6_stockBehind : MethodName := ⟨RX6, "stockBehind", "(II)J"⟩
abbrev cX6_takeRecording : ByteArray := prog_1_method_34_code
def yX6_takeRecording : MethodName := ⟨RX6, "takeRecording", "(II)V"⟩
abbrev cX6_inside : ByteArray := prog_1_method_35_code
def yX6_inside : MethodName := ⟨RX6, "inside", "(III)Z"⟩
abbrev cX6_areBits : ByteArray := prog_1_method_36_code
def yX6_areBits : MethodName := ⟨RX6, "areBits", "(II)Z"⟩
abbrev cX6_isYear : ByteArray := prog_1_method_37_code
def yX6_isYear : MethodName := ⟨RX6, "isYear", "(I)Z"⟩
abbrev cX6_bit : ByteArray := prog_1_method_38_code
def yX6_bit : MethodName := ⟨RX6, "bit", "(JI)I"⟩
abbrev cX6_listed : ByteArray := prog_1_method_39_code
def yX6_listed : MethodName := ⟨RX6, "listed", "([III)I"⟩
abbrev cX6_pick : ByteArray := prog_1_method_40_code
def yX6_pick : MethodName := ⟨RX6, "pick", "(JI)I"⟩
abbrev cX6_isSlot : ByteArray := prog_1_method_41_code
def yX6_isSlot : MethodName := ⟨RX6, "isSlot", "(I)Z"⟩
abbrev cX6_isScene : ByteArray := prog_1_method_42_code
def yX6_isScene : MethodName := ⟨RX6, "isScene", "(I)Z"⟩
def RX7 : String := "LongSongModel"
def TX7 : u_T := fun k => match k with
  | 0 => ("LongSongModel", "beats", "[I", true)
  | 1 => ("LongSongModel", "heavy", "[I", true)
  | 2 => ("LongSongModel", "gap", "[I", true)
  | 3 => ("LongSongModel", "nameBeats", "[I", true)
  | 4 => ("LongSongModel", "nameHeavy", "[I", true)
  | 5 => ("LongSongModel", "first", "[I", true)
  | 6 => ("LongSongModel", "second", "[I", true)
  | 7 => ("LongSongModel", "slot", "[I", true)
  | 8 => ("LongSongModel", "hero", "[I", true)
  | 9 => ("LongSongModel", "slip", "[I", true)
  | 10 => ("LongSongModel", "metre", "[I", true)
  | 11 => ("LongSongModel", "halves", "I", false)
  | 12 => ("LongSongModel", "lines", "I", false)
  | 13 => ("LongSongModel", "broken", "[I", true)
  | 14 => ("LongSongModel", "brokenMany", "I", false)
  | 15 => ("LongSongModel", "tape", "[I", true)
  | 16 => ("LongSongModel", "text", "[I", true)
  | 17 => ("LongSongModel", "textSize", "[I", true)
  | 18 => ("LongSongModel", "toldAt", "[I", true)
  | 19 => ("LongSongModel", "stack", "[I", true)
  | 20 => ("LongSongModel", "taped", "I", false)
  | 21 => ("LongSongModel", "at", "I", false)
  | 22 => ("LongSongModel", "top", "I", false)
  | 23 => ("LongSongModel", "tellings", "I", false)
  | 24 => ("LongSongModel", "hall", "I", false)
  | 25 => ("LongSongModel", "noScene", "I", false)
  | 26 => ("LongSongModel", "inScene", "[I", true)
  | 27 => ("LongSongModel", "goesAt", "[I", true)
  | 28 => ("LongSongModel", "rounds", "[I", true)
  | 29 => ("LongSongModel", "roundsFrom", "[I", true)
  | 30 => ("LongSongModel", "sung", "[I", true)
  | 31 => ("LongSongModel", "now", "[I", true)
  | 32 => ("LongSongModel", "sungMany", "I", false)
  | 33 => ("LongSongModel", "nowMany", "I", false)
  | 34 => ("LongSongModel", "number", "J", false)
  | 35 => ("LongSongModel", "table", "[I", true)
  | 36 => ("LongSongModel", "open", "[I", true)
  | 37 => ("LongSongModel", "part", "[I", true)
  | 38 => ("LongSongModel", "work", "[I", true)
  | 39 => ("LongSongModel", "power", "[I", true)
  | 40 => ("LongSongModel", "cur", "[I", true)
  | 41 => ("LongSongModel", "row", "[I", true)
  | 42 => ("LongSongModel", "seen", "[I", true)
  | 43 => ("LongSongModel", "rowMany", "I", false)
  | 44 => ("LongSongModel", "seenMany", "I", false)
  | 45 => ("LongSongModel", "born", "[I", true)
  | 46 => ("LongSongModel", "village", "[I", true)
  | 47 => ("LongSongModel", "whoLearns", "[I", true)
  | 48 => ("LongSongModel", "whichLine", "[I", true)
  | 49 => ("LongSongModel", "when", "[I", true)
  | 50 => ("LongSongModel", "isLearnt", "[Z", true)
  | 51 => ("LongSongModel", "has", "[Z", true)
  | 52 => ("LongSongModel", "singers", "I", false)
  | 53 => ("LongSongModel", "entries", "I", false)
  | 54 => ("LongSongModel", "recSinger", "[I", true)
  | 55 => ("LongSongModel", "recScene", "[I", true)
  | 56 => ("LongSongModel", "recYear", "[I", true)
  | 57 => ("LongSongModel", "recMany", "[I", true)
  | 58 => ("LongSongModel", "recLine", "[I", true)
  | _ => ("LongSongModel", "recordings", "I", false)
def tyX7 : Nat → FieldType := fun k => match k with
  | 0 => .array .int
  | 1 => .array .int
  | 2 => .array .int
  | 3 => .array .int
  | 4 => .array .int
  | 5 => .array .int
  | 6 => .array .int
  | 7 => .array .int
  | 8 => .array .int
  | 9 => .array .int
  | 10 => .array .int
  | 11 => .int
  | 12 => .int
  | 13 => .array .int
  | 14 => .int
  | 15 => .array .int
  | 16 => .array .int
  | 17 => .array .int
  | 18 => .array .int
  | 19 => .array .int
  | 20 => .int
  | 21 => .int
  | 22 => .int
  | 23 => .int
  | 24 => .int
  | 25 => .int
  | 26 => .array .int
  | 27 => .array .int
  | 28 => .array .int
  | 29 => .array .int
  | 30 => .array .int
  | 31 => .array .int
  | 32 => .int
  | 33 => .int
  | 34 => .long
  | 35 => .array .int
  | 36 => .array .int
  | 37 => .array .int
  | 38 => .array .int
  | 39 => .array .int
  | 40 => .array .int
  | 41 => .array .int
  | 42 => .array .int
  | 43 => .int
  | 44 => .int
  | 45 => .array .int
  | 46 => .array .int
  | 47 => .array .int
  | 48 => .array .int
  | 49 => .array .int
  | 50 => .array .boolean
  | 51 => .array .boolean
  | 52 => .int
  | 53 => .int
  | 54 => .array .int
  | 55 => .array .int
  | 56 => .array .int
  | 57 => .array .int
  | 58 => .array .int
  | _ => .int
abbrev wsX70 : List Cond := u_ws RX7 TX7 60
theorem nmX7 : ∀ a, a < 60 → ∀ b, b < 60 → a ≠ b → (TX7 a).2.1 ≠ (TX7 b).2.1 := by decide +kernel
theorem tyX7_ok : ∀ k, k < 60 → parseFieldDescriptor (TX7 k).2.2.1 = some (tyX7 k) := by decide +kernel
abbrev cX7_init : ByteArray := prog_9_method_1_code
def yX7_init : MethodName := ⟨RX7, "<init>", "()V"⟩
abbrev cX7_isIn : ByteArray := prog_9_method_2_code
def yX7_isIn : MethodName := ⟨RX7, "isIn", "(JJJ)Z"⟩
abbrev cX7_isHalf : ByteArray := prog_9_method_4_code
def yX7_isHalf : MethodName := ⟨RX7, "isHalf", "(I)Z"⟩
abbrev cX7_isLine : ByteArray := prog_9_method_5_code
def yX7_isLine : MethodName := ⟨RX7, "isLine", "(I)Z"⟩
abbrev cX7_isName : ByteArray := prog_9_method_6_code
def yX7_isName : MethodName := ⟨RX7, "isName", "(I)Z"⟩
abbrev cX7_half : ByteArray := prog_9_method_7_code
def yX7_half : MethodName := ⟨RX7, "half", "(III)I"⟩
abbrev cX7_name : ByteArray := prog_9_method_8_code
def yX7_name : MethodName := ⟨RX7, "name", "(III)I"⟩
abbrev cX7_line : ByteArray := prog_9_method_9_code
def yX7_line : MethodName := ⟨RX7, "line", "(IIIII)I"⟩
abbrev cX7_metre : ByteArray := prog_9_method_10_code
def yX7_metre : MethodName := ⟨RX7, "metre", "(II)I"⟩
abbrev cX7_longOf : ByteArray := prog_9_method_11_code
def yX7_longOf : MethodName := ⟨RX7, "longOf", "(II)I"⟩
abbrev cX7_heavyOf : ByteArray := prog_9_method_12_code
def yX7_heavyOf : MethodName := ⟨RX7, "heavyOf", "(II)I"⟩
abbrev cX7_heavyAll : ByteArray := prog_9_method_13_code
def yX7_heavyAll : MethodName := ⟨RX7, "heavyAll", "(III)I"⟩
abbrev cX7_scans : ByteArray := prog_9_method_14_code
def yX7_scans : MethodName := ⟨RX7, "scans", "(III)Z"⟩
abbrev cX7_told : ByteArray := prog_9_method_15_code
def yX7_told : MethodName := ⟨RX7, "told", "(II)I"⟩
abbrev cX7_mends : ByteArray := prog_9_method_16_code
def yX7_mends : MethodName := ⟨RX7, "mends", "(I)Z"⟩
abbrev cX7_swap : ByteArray := prog_9_method_17_code
def yX7_swap : MethodName := ⟨RX7, "swap", "(II)I"⟩
abbrev cX7_broken : ByteArray := prog_9_method_18_code
def yX7_broken : MethodName := ⟨RX7, "broken", "(I)I"⟩
abbrev cX7_feed : ByteArray := prog_9_method_19_code
def yX7_feed : MethodName := ⟨RX7, "feed", "(JI)I"⟩
abbrev cX7_sign : ByteArray := prog_9_method_20_code
def yX7_sign : MethodName := ⟨RX7, "sign", "()I"⟩
abbrev cX7_isSlot : ByteArray := prog_9_method_21_code
def yX7_isSlot : MethodName := ⟨RX7, "isSlot", "(I)Z"⟩
abbrev cX7_isScene : ByteArray := prog_9_method_22_code
def yX7_isScene : MethodName := ⟨RX7, "isScene", "(I)Z"⟩
abbrev cX7_isTold : ByteArray := prog_9_method_23_code
def yX7_isTold : MethodName := ⟨RX7, "isTold", "(I)Z"⟩
abbrev cX7_parses : ByteArray := prog_9_method_24_code
def yX7_parses : MethodName := ⟨RX7, "parses", "(I)Z"⟩
abbrev cX7_standsInOther : ByteArray := prog_9_method_25_code
def yX7_standsInOther : MethodName := ⟨RX7, "standsInOther", "(I)Z"⟩
abbrev cX7_scene : ByteArray := prog_9_method_26_code
def yX7_scene : MethodName := ⟨RX7, "scene", "()I"⟩
abbrev cX7_hall : ByteArray := prog_9_method_27_code
def yX7_hall : MethodName := ⟨RX7, "hall", "(I)I"⟩
abbrev cX7_behind : ByteArray := prog_9_method_28_code
def yX7_behind : MethodName := ⟨RX7, "behind", "(II)I"⟩
abbrev cX7_endFrom : ByteArray := prog_9_method_29_code
def yX7_endFrom : MethodName := ⟨RX7, "endFrom", "(II)I"⟩
abbrev cX7_chooses : ByteArray := prog_9_method_30_code
def yX7_chooses : MethodName := ⟨RX7, "chooses", "(I)I"⟩
abbrev cX7_linesOf : ByteArray := prog_9_method_31_code
def yX7_linesOf : MethodName := ⟨RX7, "linesOf", "(I)I"⟩
abbrev cX7_lineOf : ByteArray := prog_9_method_32_code
def yX7_lineOf : MethodName := ⟨RX7, "lineOf", "(II)I"⟩
abbrev cX7_sings : ByteArray := prog_9_method_33_code
def yX7_sings : MethodName := ⟨RX7, "sings", "(I)Z"⟩
abbrev cX7_sing : ByteArray := prog_9_method_34_code
def yX7_sing : MethodName := ⟨RX7, "sing", "(IIIJ)I"⟩
abbrev cX7_sung : ByteArray := prog_9_method_35_code
def yX7_sung : MethodName := ⟨RX7, "sung", "(I)I"⟩
abbrev cX7_least : ByteArray := prog_9_method_36_code
def yX7_least : MethodName := ⟨RX7, "least", "(J)I"⟩
abbrev cX7_times : ByteArray := prog_9_method_37_code
def yX7_times : MethodName := ⟨RX7, "times", "([II)V"⟩
abbrev cX7_begins : ByteArray := prog_9_method_38_code
def yX7_begins : MethodName := ⟨RX7, "begins", "()V"⟩
abbrev cX7_takesSlot : ByteArray := prog_9_method_39_code
def yX7_takesSlot : MethodName := ⟨RX7, "takesSlot", "(I)V"⟩
abbrev cX7_waysAt : ByteArray := prog_9_method_40_code
def yX7_waysAt : MethodName := ⟨RX7, "waysAt", "(II)I"⟩
abbrev cX7_closes : ByteArray := prog_9_method_41_code
def yX7_closes : MethodName := ⟨RX7, "closes", "(II)V"⟩
abbrev cX7_goesBehind : ByteArray := prog_9_method_42_code
def yX7_goesBehind : MethodName := ⟨RX7, "goesBehind", "(I)V"⟩
abbrev cX7_findTable : ByteArray := prog_9_method_43_code
def yX7_findTable : MethodName := ⟨RX7, "findTable", "(I)V"⟩
abbrev cX7_runsOf : ByteArray := prog_9_method_44_code
def yX7_runsOf : MethodName := ⟨RX7, "runsOf", "(I)I"⟩
abbrev cX7_isSinger : ByteArray := prog_9_method_45_code
def yX7_isSinger : MethodName := ⟨RX7, "isSinger", "(I)Z"⟩
abbrev cX7_isYear : ByteArray := prog_9_method_46_code
def yX7_isYear : MethodName := ⟨RX7, "isYear", "(I)Z"⟩
abbrev cX7_isKnown : ByteArray := prog_9_method_47_code
def yX7_isKnown : MethodName := ⟨RX7, "isKnown", "(I)Z"⟩
abbrev cX7_upTo : ByteArray := prog_9_method_48_code
def yX7_upTo : MethodName := ⟨RX7, "upTo", "(I)I"⟩
abbrev cX7_singer : ByteArray := prog_9_method_49_code
def yX7_singer : MethodName := ⟨RX7, "singer", "(I)I"⟩
abbrev cX7_village : ByteArray := prog_9_method_50_code
def yX7_village : MethodName := ⟨RX7, "village", "(II)I"⟩
abbrev cX7_enters : ByteArray := prog_9_method_51_code
def yX7_enters : MethodName := ⟨RX7, "enters", "(IIIZ)I"⟩
abbrev cX7_learn : ByteArray := prog_9_method_52_code
def yX7_learn : MethodName := ⟨RX7, "learn", "(IIII)I"⟩
abbrev cX7_forget : ByteArray := prog_9_method_53_code
def yX7_forget : MethodName := ⟨RX7, "forget", "(III)I"⟩
abbrev cX7_hasLine : ByteArray := prog_9_method_54_code
def yX7_hasLine : MethodName := ⟨RX7, "hasLine", "(IIII)Z"⟩
abbrev cX7_findStock : ByteArray := prog_9_method_55_code
def yX7_findStock : MethodName := ⟨RX7, "findStock", "(III)V"⟩
abbrev cX7_has : ByteArray := prog_9_method_56_code
def yX7_has : MethodName := ⟨RX7, "has", "(IIII)I"⟩
abbrev cX7_stock : ByteArray := prog_9_method_57_code
def yX7_stock : MethodName := ⟨RX7, "stock", "(III)I"⟩
abbrev cX7_unlikeBy : ByteArray := prog_9_method_58_code
def yX7_unlikeBy : MethodName := ⟨RX7, "unlikeBy", "(IIII)I"⟩
abbrev cX7_unlike : ByteArray := prog_9_method_59_code
def yX7_unlike : MethodName := ⟨RX7, "unlike", "(IIII)I"⟩
abbrev cX7_masterOf : ByteArray := prog_9_method_60_code
def yX7_masterOf : MethodName := ⟨RX7, "masterOf", "(III)I"⟩
abbrev cX7_master : ByteArray := prog_9_method_61_code
def yX7_master : MethodName := ⟨RX7, "master", "(III)I"⟩
abbrev cX7_lineage : ByteArray := prog_9_method_62_code
def yX7_lineage : MethodName := ⟨RX7, "lineage", "(II)I"⟩
abbrev cX7_loan : ByteArray := prog_9_method_63_code
def yX7_loan : MethodName := ⟨RX7, "loan", "(IIII)I"⟩
abbrev cX7_core : ByteArray := prog_9_method_64_code
def yX7_core : MethodName := ⟨RX7, "core", "(III)I"⟩
abbrev cX7_whose : ByteArray := prog_9_method_65_code
def yX7_whose : MethodName := ⟨RX7, "whose", "(III)I"⟩
abbrev cX7_put : ByteArray := prog_9_method_66_code
def yX7_put : MethodName := ⟨RX7, "put", "(II)I"⟩
abbrev cX7_sees : ByteArray := prog_9_method_67_code
def yX7_sees : MethodName := ⟨RX7, "sees", "([III)V"⟩
abbrev cX7_runs : ByteArray := prog_9_method_68_code
def yX7_runs : MethodName := ⟨RX7, "runs", "(IIII)I"⟩
abbrev cX7_isForged : ByteArray := prog_9_method_69_code
def yX7_isForged : MethodName := ⟨RX7, "isForged", "(IIII)Z"⟩
abbrev cX7_forged : ByteArray := prog_9_method_70_code
def yX7_forged : MethodName := ⟨RX7, "forged", "(III)I"⟩
abbrev cX7_record : ByteArray := prog_9_method_71_code
def yX7_record : MethodName := ⟨RX7, "record", "(III)I"⟩
abbrev cX7_isRecording : ByteArray := prog_9_method_72_code
def yX7_isRecording : MethodName := ⟨RX7, "isRecording", "(I)Z"⟩
abbrev cX7_plays : ByteArray := prog_9_method_73_code
def yX7_plays : MethodName := ⟨RX7, "plays", "(II)V"⟩
abbrev cX7_heard : ByteArray := prog_9_method_74_code
def yX7_heard : MethodName := ⟨RX7, "heard", "(III)I"⟩
abbrev cX7_filled : ByteArray := prog_9_method_75_code
def yX7_filled : MethodName := ⟨RX7, "filled", "(III)I"⟩
abbrev cX7_count : ByteArray := prog_9_method_76_code
def yX7_count : MethodName := ⟨RX7, "count", "(I)I"⟩
def RJ13 : String := "java/lang/Long"
def TJ13 : u_T := fun k => match k with
  | _ => ("", "", "", false)
def tyJ13 : Nat → FieldType := fun k => match k with
  | _ => .int
abbrev wsJ130 : List Cond := u_ws RJ13 TJ13 0
theorem nmJ13 : ∀ a, a < 0 → ∀ b, b < 0 → a ≠ b → (TJ13 a).2.1 ≠ (TJ13 b).2.1 := by decide +kernel
theorem tyJ13_ok : ∀ k, k < 0 → parseFieldDescriptor (TJ13 k).2.2.1 = some (tyJ13 k) := by decide +kernel
abbrev cJ13_bitCount_95d88 : ByteArray := prog_10_method_50_code
def yJ13_bitCount_95d88 : MethodName := ⟨RJ13, "bitCount", "(J)I"⟩
def RJ9 : String := "java/lang/Math"
def TJ9 : u_T := fun k => match k with
  | _ => ("", "", "", false)
def tyJ9 : Nat → FieldType := fun k => match k with
  | _ => .int
abbrev wsJ90 : List Cond := u_ws RJ9 TJ9 0
theorem nmJ9 : ∀ a, a < 0 → ∀ b, b < 0 → a ≠ b → (TJ9 a).2.1 ≠ (TJ9 b).2.1 := by decide +kernel
theorem tyJ9_ok : ∀ k, k < 0 → parseFieldDescriptor (TJ9 k).2.2.1 = some (tyJ9 k) := by decide +kernel
abbrev cJ9_min_7cf53 : ByteArray := prog_11_method_69_code
def yJ9_min_7cf53 : MethodName := ⟨RJ9, "min", "(II)I"⟩
abbrev cJ9_min_f86c9 : ByteArray := prog_11_method_70_code
def yJ9_min_f86c9 : MethodName := ⟨RJ9, "min", "(JJ)J"⟩
def RJ10 : String := "java/lang/System"
def TJ10 : u_T := fun k => match k with
  | _ => ("", "", "", false)
def tyJ10 : Nat → FieldType := fun k => match k with
  | _ => .int
abbrev wsJ100 : List Cond := u_ws RJ10 TJ10 0
theorem nmJ10 : ∀ a, a < 0 → ∀ b, b < 0 → a ≠ b → (TJ10 a).2.1 ≠ (TJ10 b).2.1 := by decide +kernel
theorem tyJ10_ok : ∀ k, k < 0 → parseFieldDescriptor (TJ10 k).2.2.1 = some (tyJ10 k) := by decide +kernel
def RJ7 : String := "java/util/Arrays"
def TJ7 : u_T := fun k => match k with
  | _ => ("", "", "", false)
def tyJ7 : Nat → FieldType := fun k => match k with
  | _ => .int
abbrev wsJ70 : List Cond := u_ws RJ7 TJ7 0
theorem nmJ7 : ∀ a, a < 0 → ∀ b, b < 0 → a ≠ b → (TJ7 a).2.1 ≠ (TJ7 b).2.1 := by decide +kernel
theorem tyJ7_ok : ∀ k, k < 0 → parseFieldDescriptor (TJ7 k).2.2.1 = some (tyJ7 k) := by decide +kernel
abbrev cJ7_fill_53178 : ByteArray := prog_13_method_103_code
def yJ7_fill_53178 : MethodName := ⟨RJ7, "fill", "([II)V"⟩
def RL : String := "LongSongLaw"
abbrev cL_law : ByteArray := code
def yL_law : MethodName := ⟨RL, "law", "([I)Z"⟩
abbrev vwCl : List vw_C := [(RX0, TX0, 11), (RX1, TX1, 7), (RX2, TX2, 13), (RX3, TX3, 6), (RX4, TX4, 13), (RX5, TX5, 16), (RX6, TX6, 8), (RX7, TX7, 60)]
end
section
theorem dJ13_bitCount_95d88_0 : decode cJ13_bitCount_95d88 0 = .ok (.lload_n 0, 1) := by decide +kernel
theorem dJ13_bitCount_95d88_1 : decode cJ13_bitCount_95d88 1 = .ok (.lload_n 0, 1) := by decide +kernel
theorem dJ13_bitCount_95d88_2 : decode cJ13_bitCount_95d88 2 = .ok (.iconst 1, 1) := by decide +kernel
theorem dJ13_bitCount_95d88_3 : decode cJ13_bitCount_95d88 3 = .ok (.lushr, 1) := by decide +kernel
theorem dJ13_bitCount_95d88_4 : decode cJ13_bitCount_95d88 4 = .ok (.ldc2_w 314, 3) := by decide +kernel
theorem dJ13_bitCount_95d88_7 : decode cJ13_bitCount_95d88 7 = .ok (.land, 1) := by decide +kernel
theorem dJ13_bitCount_95d88_8 : decode cJ13_bitCount_95d88 8 = .ok (.lsub, 1) := by decide +kernel
theorem dJ13_bitCount_95d88_9 : decode cJ13_bitCount_95d88 9 = .ok (.lstore_n 0, 1) := by decide +kernel
theorem dJ13_bitCount_95d88_10 : decode cJ13_bitCount_95d88 10 = .ok (.lload_n 0, 1) := by decide +kernel
theorem dJ13_bitCount_95d88_11 : decode cJ13_bitCount_95d88 11 = .ok (.ldc2_w 316, 3) := by decide +kernel
theorem dJ13_bitCount_95d88_14 : decode cJ13_bitCount_95d88 14 = .ok (.land, 1) := by decide +kernel
theorem dJ13_bitCount_95d88_15 : decode cJ13_bitCount_95d88 15 = .ok (.lload_n 0, 1) := by decide +kernel
theorem dJ13_bitCount_95d88_16 : decode cJ13_bitCount_95d88 16 = .ok (.iconst 2, 1) := by decide +kernel
theorem dJ13_bitCount_95d88_17 : decode cJ13_bitCount_95d88 17 = .ok (.lushr, 1) := by decide +kernel
theorem dJ13_bitCount_95d88_18 : decode cJ13_bitCount_95d88 18 = .ok (.ldc2_w 316, 3) := by decide +kernel
theorem dJ13_bitCount_95d88_21 : decode cJ13_bitCount_95d88 21 = .ok (.land, 1) := by decide +kernel
theorem dJ13_bitCount_95d88_22 : decode cJ13_bitCount_95d88 22 = .ok (.ladd, 1) := by decide +kernel
theorem dJ13_bitCount_95d88_23 : decode cJ13_bitCount_95d88 23 = .ok (.lstore_n 0, 1) := by decide +kernel
theorem dJ13_bitCount_95d88_24 : decode cJ13_bitCount_95d88 24 = .ok (.lload_n 0, 1) := by decide +kernel
theorem dJ13_bitCount_95d88_25 : decode cJ13_bitCount_95d88 25 = .ok (.lload_n 0, 1) := by decide +kernel
theorem dJ13_bitCount_95d88_26 : decode cJ13_bitCount_95d88 26 = .ok (.iconst 4, 1) := by decide +kernel
theorem dJ13_bitCount_95d88_27 : decode cJ13_bitCount_95d88 27 = .ok (.lushr, 1) := by decide +kernel
theorem dJ13_bitCount_95d88_28 : decode cJ13_bitCount_95d88 28 = .ok (.ladd, 1) := by decide +kernel
theorem dJ13_bitCount_95d88_29 : decode cJ13_bitCount_95d88 29 = .ok (.ldc2_w 318, 3) := by decide +kernel
theorem dJ13_bitCount_95d88_32 : decode cJ13_bitCount_95d88 32 = .ok (.land, 1) := by decide +kernel
theorem dJ13_bitCount_95d88_33 : decode cJ13_bitCount_95d88 33 = .ok (.lstore_n 0, 1) := by decide +kernel
theorem dJ13_bitCount_95d88_34 : decode cJ13_bitCount_95d88 34 = .ok (.lload_n 0, 1) := by decide +kernel
theorem dJ13_bitCount_95d88_35 : decode cJ13_bitCount_95d88 35 = .ok (.lload_n 0, 1) := by decide +kernel
theorem dJ13_bitCount_95d88_36 : decode cJ13_bitCount_95d88 36 = .ok (.bipush 8, 2) := by decide +kernel
theorem dJ13_bitCount_95d88_38 : decode cJ13_bitCount_95d88 38 = .ok (.lushr, 1) := by decide +kernel
theorem dJ13_bitCount_95d88_39 : decode cJ13_bitCount_95d88 39 = .ok (.ladd, 1) := by decide +kernel
theorem dJ13_bitCount_95d88_40 : decode cJ13_bitCount_95d88 40 = .ok (.lstore_n 0, 1) := by decide +kernel
theorem dJ13_bitCount_95d88_41 : decode cJ13_bitCount_95d88 41 = .ok (.lload_n 0, 1) := by decide +kernel
theorem dJ13_bitCount_95d88_42 : decode cJ13_bitCount_95d88 42 = .ok (.lload_n 0, 1) := by decide +kernel
theorem dJ13_bitCount_95d88_43 : decode cJ13_bitCount_95d88 43 = .ok (.bipush 16, 2) := by decide +kernel
theorem dJ13_bitCount_95d88_45 : decode cJ13_bitCount_95d88 45 = .ok (.lushr, 1) := by decide +kernel
theorem dJ13_bitCount_95d88_46 : decode cJ13_bitCount_95d88 46 = .ok (.ladd, 1) := by decide +kernel
theorem dJ13_bitCount_95d88_47 : decode cJ13_bitCount_95d88 47 = .ok (.lstore_n 0, 1) := by decide +kernel
theorem dJ13_bitCount_95d88_48 : decode cJ13_bitCount_95d88 48 = .ok (.lload_n 0, 1) := by decide +kernel
theorem dJ13_bitCount_95d88_49 : decode cJ13_bitCount_95d88 49 = .ok (.lload_n 0, 1) := by decide +kernel
theorem dJ13_bitCount_95d88_50 : decode cJ13_bitCount_95d88 50 = .ok (.bipush 32, 2) := by decide +kernel
theorem dJ13_bitCount_95d88_52 : decode cJ13_bitCount_95d88 52 = .ok (.lushr, 1) := by decide +kernel
theorem dJ13_bitCount_95d88_53 : decode cJ13_bitCount_95d88 53 = .ok (.ladd, 1) := by decide +kernel
theorem dJ13_bitCount_95d88_54 : decode cJ13_bitCount_95d88 54 = .ok (.lstore_n 0, 1) := by decide +kernel
theorem dJ13_bitCount_95d88_55 : decode cJ13_bitCount_95d88 55 = .ok (.lload_n 0, 1) := by decide +kernel
theorem dJ13_bitCount_95d88_56 : decode cJ13_bitCount_95d88 56 = .ok (.l2i, 1) := by decide +kernel
theorem dJ13_bitCount_95d88_57 : decode cJ13_bitCount_95d88 57 = .ok (.bipush 127, 2) := by decide +kernel
theorem dJ13_bitCount_95d88_59 : decode cJ13_bitCount_95d88 59 = .ok (.iand, 1) := by decide +kernel
theorem dJ13_bitCount_95d88_60 : decode cJ13_bitCount_95d88 60 = .ok (.ireturn, 1) := by decide +kernel
theorem dJ7_fill_53178_0 : decode cJ7_fill_53178 0 = .ok (.iconst 0, 1) := by decide +kernel
theorem dJ7_fill_53178_1 : decode cJ7_fill_53178 1 = .ok (.istore_n 2, 1) := by decide +kernel
theorem dJ7_fill_53178_2 : decode cJ7_fill_53178 2 = .ok (.aload_n 0, 1) := by decide +kernel
theorem dJ7_fill_53178_3 : decode cJ7_fill_53178 3 = .ok (.arraylength, 1) := by decide +kernel
theorem dJ7_fill_53178_4 : decode cJ7_fill_53178 4 = .ok (.istore_n 3, 1) := by decide +kernel
theorem dJ7_fill_53178_5 : decode cJ7_fill_53178 5 = .ok (.iload_n 2, 1) := by decide +kernel
theorem dJ7_fill_53178_6 : decode cJ7_fill_53178 6 = .ok (.iload_n 3, 1) := by decide +kernel
theorem dJ7_fill_53178_7 : decode cJ7_fill_53178 7 = .ok (.if_icmp .ge 13, 3) := by decide +kernel
theorem dJ7_fill_53178_10 : decode cJ7_fill_53178 10 = .ok (.aload_n 0, 1) := by decide +kernel
theorem dJ7_fill_53178_11 : decode cJ7_fill_53178 11 = .ok (.iload_n 2, 1) := by decide +kernel
theorem dJ7_fill_53178_12 : decode cJ7_fill_53178 12 = .ok (.iload_n 1, 1) := by decide +kernel
theorem dJ7_fill_53178_13 : decode cJ7_fill_53178 13 = .ok (.iastore, 1) := by decide +kernel
theorem dJ7_fill_53178_14 : decode cJ7_fill_53178 14 = .ok (.iinc 2 1, 3) := by decide +kernel
theorem dJ7_fill_53178_17 : decode cJ7_fill_53178 17 = .ok (.goto (-12), 3) := by decide +kernel
theorem dJ7_fill_53178_20 : decode cJ7_fill_53178 20 = .ok (.return_, 1) := by decide +kernel
theorem dJ9_min_7cf53_0 : decode cJ9_min_7cf53 0 = .ok (.iload_n 0, 1) := by decide +kernel
theorem dJ9_min_7cf53_1 : decode cJ9_min_7cf53 1 = .ok (.iload_n 1, 1) := by decide +kernel
theorem dJ9_min_7cf53_2 : decode cJ9_min_7cf53 2 = .ok (.if_icmp .gt 7, 3) := by decide +kernel
theorem dJ9_min_7cf53_5 : decode cJ9_min_7cf53 5 = .ok (.iload_n 0, 1) := by decide +kernel
theorem dJ9_min_7cf53_6 : decode cJ9_min_7cf53 6 = .ok (.goto 4, 3) := by decide +kernel
theorem dJ9_min_7cf53_9 : decode cJ9_min_7cf53 9 = .ok (.iload_n 1, 1) := by decide +kernel
theorem dJ9_min_7cf53_10 : decode cJ9_min_7cf53 10 = .ok (.ireturn, 1) := by decide +kernel
theorem dJ9_min_f86c9_0 : decode cJ9_min_f86c9 0 = .ok (.lload_n 0, 1) := by decide +kernel
theorem dJ9_min_f86c9_1 : decode cJ9_min_f86c9 1 = .ok (.lload_n 2, 1) := by decide +kernel
theorem dJ9_min_f86c9_2 : decode cJ9_min_f86c9 2 = .ok (.lcmp, 1) := by decide +kernel
theorem dJ9_min_f86c9_3 : decode cJ9_min_f86c9 3 = .ok (.ifCond .gt 7, 3) := by decide +kernel
theorem dJ9_min_f86c9_6 : decode cJ9_min_f86c9 6 = .ok (.lload_n 0, 1) := by decide +kernel
theorem dJ9_min_f86c9_7 : decode cJ9_min_f86c9 7 = .ok (.goto 4, 3) := by decide +kernel
theorem dJ9_min_f86c9_10 : decode cJ9_min_f86c9 10 = .ok (.lload_n 2, 1) := by decide +kernel
theorem dJ9_min_f86c9_11 : decode cJ9_min_f86c9 11 = .ok (.lreturn, 1) := by decide +kernel
theorem dX0_init_0 : decode cX0_init 0 = .ok (.aload_n 0, 1) := by decide +kernel
theorem dX0_init_1 : decode cX0_init 1 = .ok (.invokespecial 3, 3) := by decide +kernel
theorem dX0_init_4 : decode cX0_init 4 = .ok (.aload_n 0, 1) := by decide +kernel
theorem dX0_init_5 : decode cX0_init 5 = .ok (.bipush 8, 2) := by decide +kernel
theorem dX0_init_7 : decode cX0_init 7 = .ok (.newarray .int, 2) := by decide +kernel
theorem dX0_init_9 : decode cX0_init 9 = .ok (.putfield 9, 3) := by decide +kernel
theorem dX0_init_12 : decode cX0_init 12 = .ok (.aload_n 0, 1) := by decide +kernel
theorem dX0_init_13 : decode cX0_init 13 = .ok (.bipush 8, 2) := by decide +kernel
theorem dX0_init_15 : decode cX0_init 15 = .ok (.newarray .int, 2) := by decide +kernel
theorem dX0_init_17 : decode cX0_init 17 = .ok (.putfield 15, 3) := by decide +kernel
theorem dX0_init_20 : decode cX0_init 20 = .ok (.aload_n 0, 1) := by decide +kernel
theorem dX0_init_21 : decode cX0_init 21 = .ok (.iconst 0, 1) := by decide +kernel
theorem dX0_init_22 : decode cX0_init 22 = .ok (.putfield 18, 3) := by decide +kernel
theorem dX0_init_25 : decode cX0_init 25 = .ok (.aload_n 0, 1) := by decide +kernel
theorem dX0_init_26 : decode cX0_init 26 = .ok (.sipush 200, 3) := by decide +kernel
theorem dX0_init_29 : decode cX0_init 29 = .ok (.newarray .int, 2) := by decide +kernel
theorem dX0_init_31 : decode cX0_init 31 = .ok (.putfield 22, 3) := by decide +kernel
theorem dX0_init_34 : decode cX0_init 34 = .ok (.aload_n 0, 1) := by decide +kernel
theorem dX0_init_35 : decode cX0_init 35 = .ok (.sipush 200, 3) := by decide +kernel
theorem dX0_init_38 : decode cX0_init 38 = .ok (.newarray .int, 2) := by decide +kernel
theorem dX0_init_40 : decode cX0_init 40 = .ok (.putfield 25, 3) := by decide +kernel
theorem dX0_init_43 : decode cX0_init 43 = .ok (.aload_n 0, 1) := by decide +kernel
theorem dX0_init_44 : decode cX0_init 44 = .ok (.sipush 200, 3) := by decide +kernel
theorem dX0_init_47 : decode cX0_init 47 = .ok (.newarray .int, 2) := by decide +kernel
theorem dX0_init_49 : decode cX0_init 49 = .ok (.putfield 28, 3) := by decide +kernel
theorem dX0_init_52 : decode cX0_init 52 = .ok (.aload_n 0, 1) := by decide +kernel
theorem dX0_init_53 : decode cX0_init 53 = .ok (.sipush 200, 3) := by decide +kernel
theorem dX0_init_56 : decode cX0_init 56 = .ok (.newarray .boolean, 2) := by decide +kernel
theorem dX0_init_58 : decode cX0_init 58 = .ok (.putfield 31, 3) := by decide +kernel
theorem dX0_init_61 : decode cX0_init 61 = .ok (.aload_n 0, 1) := by decide +kernel
theorem dX0_init_62 : decode cX0_init 62 = .ok (.iconst 0, 1) := by decide +kernel
theorem dX0_init_63 : decode cX0_init 63 = .ok (.putfield 35, 3) := by decide +kernel
theorem dX0_init_66 : decode cX0_init 66 = .ok (.aload_n 0, 1) := by decide +kernel
theorem dX0_init_67 : decode cX0_init 67 = .ok (.bipush 40, 2) := by decide +kernel
theorem dX0_init_69 : decode cX0_init 69 = .ok (.newarray .int, 2) := by decide +kernel
theorem dX0_init_71 : decode cX0_init 71 = .ok (.putfield 38, 3) := by decide +kernel
theorem dX0_init_74 : decode cX0_init 74 = .ok (.aload_n 0, 1) := by decide +kernel
theorem dX0_init_75 : decode cX0_init 75 = .ok (.bipush 8, 2) := by decide +kernel
theorem dX0_init_77 : decode cX0_init 77 = .ok (.newarray .long, 2) := by decide +kernel
theorem dX0_init_79 : decode cX0_init 79 = .ok (.putfield 41, 3) := by decide +kernel
theorem dX0_init_82 : decode cX0_init 82 = .ok (.aload_n 0, 1) := by decide +kernel
theorem dX0_init_83 : decode cX0_init 83 = .ok (.bipush 10, 2) := by decide +kernel
theorem dX0_init_85 : decode cX0_init 85 = .ok (.newarray .int, 2) := by decide +kernel
theorem dX0_init_87 : decode cX0_init 87 = .ok (.putfield 45, 3) := by decide +kernel
theorem dX0_init_90 : decode cX0_init 90 = .ok (.return_, 1) := by decide +kernel
theorem dX0_isSinger_0 : decode cX0_isSinger 0 = .ok (.iload_n 1, 1) := by decide +kernel
theorem dX0_isSinger_1 : decode cX0_isSinger 1 = .ok (.ifCond .lt 15, 3) := by decide +kernel
theorem dX0_isSinger_4 : decode cX0_isSinger 4 = .ok (.iload_n 1, 1) := by decide +kernel
theorem dX0_isSinger_5 : decode cX0_isSinger 5 = .ok (.aload_n 0, 1) := by decide +kernel
theorem dX0_isSinger_6 : decode cX0_isSinger 6 = .ok (.getfield 18, 3) := by decide +kernel
theorem dX0_isSinger_9 : decode cX0_isSinger 9 = .ok (.if_icmp .ge 7, 3) := by decide +kernel
theorem dX0_isSinger_12 : decode cX0_isSinger 12 = .ok (.iconst 1, 1) := by decide +kernel
theorem dX0_isSinger_13 : decode cX0_isSinger 13 = .ok (.goto 4, 3) := by decide +kernel
theorem dX0_isSinger_16 : decode cX0_isSinger 16 = .ok (.iconst 0, 1) := by decide +kernel
theorem dX0_isSinger_17 : decode cX0_isSinger 17 = .ok (.ireturn, 1) := by decide +kernel
theorem dX0_isKnown_0 : decode cX0_isKnown 0 = .ok (.iload_n 1, 1) := by decide +kernel
theorem dX0_isKnown_1 : decode cX0_isKnown 1 = .ok (.iconst (-1), 1) := by decide +kernel
theorem dX0_isKnown_2 : decode cX0_isKnown 2 = .ok (.if_icmp .lt 15, 3) := by decide +kernel
theorem dX0_isKnown_5 : decode cX0_isKnown 5 = .ok (.iload_n 1, 1) := by decide +kernel
theorem dX0_isKnown_6 : decode cX0_isKnown 6 = .ok (.aload_n 0, 1) := by decide +kernel
theorem dX0_isKnown_7 : decode cX0_isKnown 7 = .ok (.getfield 35, 3) := by decide +kernel
theorem dX0_isKnown_10 : decode cX0_isKnown 10 = .ok (.if_icmp .gt 7, 3) := by decide +kernel
theorem dX0_isKnown_13 : decode cX0_isKnown 13 = .ok (.iconst 1, 1) := by decide +kernel
theorem dX0_isKnown_14 : decode cX0_isKnown 14 = .ok (.goto 4, 3) := by decide +kernel
theorem dX0_isKnown_17 : decode cX0_isKnown 17 = .ok (.iconst 0, 1) := by decide +kernel
theorem dX0_isKnown_18 : decode cX0_isKnown 18 = .ok (.ireturn, 1) := by decide +kernel
theorem dX0_addSinger_0 : decode cX0_addSinger 0 = .ok (.aload_n 0, 1) := by decide +kernel
theorem dX0_addSinger_1 : decode cX0_addSinger 1 = .ok (.getfield 9, 3) := by decide +kernel
theorem dX0_addSinger_4 : decode cX0_addSinger 4 = .ok (.aload_n 0, 1) := by decide +kernel
theorem dX0_addSinger_5 : decode cX0_addSinger 5 = .ok (.getfield 18, 3) := by decide +kernel
theorem dX0_addSinger_8 : decode cX0_addSinger 8 = .ok (.iload_n 1, 1) := by decide +kernel
theorem dX0_addSinger_9 : decode cX0_addSinger 9 = .ok (.iastore, 1) := by decide +kernel
theorem dX0_addSinger_10 : decode cX0_addSinger 10 = .ok (.aload_n 0, 1) := by decide +kernel
theorem dX0_addSinger_11 : decode cX0_addSinger 11 = .ok (.dup, 1) := by decide +kernel
theorem dX0_addSinger_12 : decode cX0_addSinger 12 = .ok (.getfield 18, 3) := by decide +kernel
theorem dX0_addSinger_15 : decode cX0_addSinger 15 = .ok (.iconst 1, 1) := by decide +kernel
theorem dX0_addSinger_16 : decode cX0_addSinger 16 = .ok (.iadd, 1) := by decide +kernel
theorem dX0_addSinger_17 : decode cX0_addSinger 17 = .ok (.putfield 18, 3) := by decide +kernel
theorem dX0_addSinger_20 : decode cX0_addSinger 20 = .ok (.aload_n 0, 1) := by decide +kernel
theorem dX0_addSinger_21 : decode cX0_addSinger 21 = .ok (.getfield 18, 3) := by decide +kernel
theorem dX0_addSinger_24 : decode cX0_addSinger 24 = .ok (.iconst 1, 1) := by decide +kernel
theorem dX0_addSinger_25 : decode cX0_addSinger 25 = .ok (.isub, 1) := by decide +kernel
theorem dX0_addSinger_26 : decode cX0_addSinger 26 = .ok (.ireturn, 1) := by decide +kernel
theorem dX0_enter_0 : decode cX0_enter 0 = .ok (.aload_n 0, 1) := by decide +kernel
theorem dX0_enter_1 : decode cX0_enter 1 = .ok (.getfield 22, 3) := by decide +kernel
theorem dX0_enter_4 : decode cX0_enter 4 = .ok (.aload_n 0, 1) := by decide +kernel
theorem dX0_enter_5 : decode cX0_enter 5 = .ok (.getfield 35, 3) := by decide +kernel
theorem dX0_enter_8 : decode cX0_enter 8 = .ok (.iload_n 1, 1) := by decide +kernel
theorem dX0_enter_9 : decode cX0_enter 9 = .ok (.iastore, 1) := by decide +kernel
theorem dX0_enter_10 : decode cX0_enter 10 = .ok (.aload_n 0, 1) := by decide +kernel
theorem dX0_enter_11 : decode cX0_enter 11 = .ok (.getfield 25, 3) := by decide +kernel
theorem dX0_enter_14 : decode cX0_enter 14 = .ok (.aload_n 0, 1) := by decide +kernel
theorem dX0_enter_15 : decode cX0_enter 15 = .ok (.getfield 35, 3) := by decide +kernel
theorem dX0_enter_18 : decode cX0_enter 18 = .ok (.iload_n 2, 1) := by decide +kernel
theorem dX0_enter_19 : decode cX0_enter 19 = .ok (.iastore, 1) := by decide +kernel
theorem dX0_enter_20 : decode cX0_enter 20 = .ok (.aload_n 0, 1) := by decide +kernel
theorem dX0_enter_21 : decode cX0_enter 21 = .ok (.getfield 28, 3) := by decide +kernel
theorem dX0_enter_24 : decode cX0_enter 24 = .ok (.aload_n 0, 1) := by decide +kernel
theorem dX0_enter_25 : decode cX0_enter 25 = .ok (.getfield 35, 3) := by decide +kernel
theorem dX0_enter_28 : decode cX0_enter 28 = .ok (.iload_n 3, 1) := by decide +kernel
theorem dX0_enter_29 : decode cX0_enter 29 = .ok (.iastore, 1) := by decide +kernel
theorem dX0_enter_30 : decode cX0_enter 30 = .ok (.aload_n 0, 1) := by decide +kernel
theorem dX0_enter_31 : decode cX0_enter 31 = .ok (.getfield 31, 3) := by decide +kernel
theorem dX0_enter_34 : decode cX0_enter 34 = .ok (.aload_n 0, 1) := by decide +kernel
theorem dX0_enter_35 : decode cX0_enter 35 = .ok (.getfield 35, 3) := by decide +kernel
theorem dX0_enter_38 : decode cX0_enter 38 = .ok (.iload 4, 2) := by decide +kernel
theorem dX0_enter_40 : decode cX0_enter 40 = .ok (.bastore, 1) := by decide +kernel
theorem dX0_enter_41 : decode cX0_enter 41 = .ok (.aload_n 0, 1) := by decide +kernel
theorem dX0_enter_42 : decode cX0_enter 42 = .ok (.dup, 1) := by decide +kernel
theorem dX0_enter_43 : decode cX0_enter 43 = .ok (.getfield 35, 3) := by decide +kernel
theorem dX0_enter_46 : decode cX0_enter 46 = .ok (.iconst 1, 1) := by decide +kernel
theorem dX0_enter_47 : decode cX0_enter 47 = .ok (.iadd, 1) := by decide +kernel
theorem dX0_enter_48 : decode cX0_enter 48 = .ok (.putfield 35, 3) := by decide +kernel
theorem dX0_enter_51 : decode cX0_enter 51 = .ok (.aload_n 0, 1) := by decide +kernel
theorem dX0_enter_52 : decode cX0_enter 52 = .ok (.getfield 35, 3) := by decide +kernel
theorem dX0_enter_55 : decode cX0_enter 55 = .ok (.ireturn, 1) := by decide +kernel
theorem dX0_stockOf_0 : decode cX0_stockOf 0 = .ok (.iload_n 3, 1) := by decide +kernel
theorem dX0_stockOf_1 : decode cX0_stockOf 1 = .ok (.iconst (-1), 1) := by decide +kernel
theorem dX0_stockOf_2 : decode cX0_stockOf 2 = .ok (.if_icmp .ne 10, 3) := by decide +kernel
theorem dX0_stockOf_5 : decode cX0_stockOf 5 = .ok (.aload_n 0, 1) := by decide +kernel
theorem dX0_stockOf_6 : decode cX0_stockOf 6 = .ok (.getfield 35, 3) := by decide +kernel
theorem dX0_stockOf_9 : decode cX0_stockOf 9 = .ok (.goto 4, 3) := by decide +kernel
theorem dX0_stockOf_12 : decode cX0_stockOf 12 = .ok (.iload_n 3, 1) := by decide +kernel
theorem dX0_stockOf_13 : decode cX0_stockOf 13 = .ok (.istore 4, 2) := by decide +kernel
theorem dX0_stockOf_15 : decode cX0_stockOf 15 = .ok (.lconst 0, 1) := by decide +kernel
theorem dX0_stockOf_16 : decode cX0_stockOf 16 = .ok (.lstore 5, 2) := by decide +kernel
theorem dX0_stockOf_18 : decode cX0_stockOf 18 = .ok (.aload_n 0, 1) := by decide +kernel
theorem dX0_stockOf_19 : decode cX0_stockOf 19 = .ok (.getfield 38, 3) := by decide +kernel
theorem dX0_stockOf_22 : decode cX0_stockOf 22 = .ok (.iconst (-1), 1) := by decide +kernel
theorem dX0_stockOf_23 : decode cX0_stockOf 23 = .ok (.invokestatic 48, 3) := by decide +kernel
theorem dX0_stockOf_26 : decode cX0_stockOf 26 = .ok (.iconst 0, 1) := by decide +kernel
theorem dX0_stockOf_27 : decode cX0_stockOf 27 = .ok (.istore 7, 2) := by decide +kernel
theorem dX0_stockOf_29 : decode cX0_stockOf 29 = .ok (.iload 7, 2) := by decide +kernel
theorem dX0_stockOf_31 : decode cX0_stockOf 31 = .ok (.iload 4, 2) := by decide +kernel
theorem dX0_stockOf_33 : decode cX0_stockOf 33 = .ok (.if_icmp .ge 104, 3) := by decide +kernel
theorem dX0_stockOf_36 : decode cX0_stockOf 36 = .ok (.aload_n 0, 1) := by decide +kernel
theorem dX0_stockOf_37 : decode cX0_stockOf 37 = .ok (.getfield 25, 3) := by decide +kernel
theorem dX0_stockOf_40 : decode cX0_stockOf 40 = .ok (.iload 7, 2) := by decide +kernel
theorem dX0_stockOf_42 : decode cX0_stockOf 42 = .ok (.iaload, 1) := by decide +kernel
theorem dX0_stockOf_43 : decode cX0_stockOf 43 = .ok (.istore 8, 2) := by decide +kernel
theorem dX0_stockOf_45 : decode cX0_stockOf 45 = .ok (.aload_n 0, 1) := by decide +kernel
theorem dX0_stockOf_46 : decode cX0_stockOf 46 = .ok (.getfield 22, 3) := by decide +kernel
theorem dX0_stockOf_49 : decode cX0_stockOf 49 = .ok (.iload 7, 2) := by decide +kernel
theorem dX0_stockOf_51 : decode cX0_stockOf 51 = .ok (.iaload, 1) := by decide +kernel
theorem dX0_stockOf_52 : decode cX0_stockOf 52 = .ok (.iload_n 1, 1) := by decide +kernel
theorem dX0_stockOf_53 : decode cX0_stockOf 53 = .ok (.if_icmp .ne 78, 3) := by decide +kernel
theorem dX0_stockOf_56 : decode cX0_stockOf 56 = .ok (.aload_n 0, 1) := by decide +kernel
theorem dX0_stockOf_57 : decode cX0_stockOf 57 = .ok (.getfield 28, 3) := by decide +kernel
theorem dX0_stockOf_60 : decode cX0_stockOf 60 = .ok (.iload 7, 2) := by decide +kernel
theorem dX0_stockOf_62 : decode cX0_stockOf 62 = .ok (.iaload, 1) := by decide +kernel
theorem dX0_stockOf_63 : decode cX0_stockOf 63 = .ok (.iload_n 2, 1) := by decide +kernel
theorem dX0_stockOf_64 : decode cX0_stockOf 64 = .ok (.if_icmp .gt 67, 3) := by decide +kernel
theorem dX0_stockOf_67 : decode cX0_stockOf 67 = .ok (.aload_n 0, 1) := by decide +kernel
theorem dX0_stockOf_68 : decode cX0_stockOf 68 = .ok (.getfield 28, 3) := by decide +kernel
theorem dX0_stockOf_71 : decode cX0_stockOf 71 = .ok (.iload 7, 2) := by decide +kernel
theorem dX0_stockOf_73 : decode cX0_stockOf 73 = .ok (.iaload, 1) := by decide +kernel
theorem dX0_stockOf_74 : decode cX0_stockOf 74 = .ok (.aload_n 0, 1) := by decide +kernel
theorem dX0_stockOf_75 : decode cX0_stockOf 75 = .ok (.getfield 38, 3) := by decide +kernel
theorem dX0_stockOf_78 : decode cX0_stockOf 78 = .ok (.iload 8, 2) := by decide +kernel
theorem dX0_stockOf_80 : decode cX0_stockOf 80 = .ok (.iaload, 1) := by decide +kernel
theorem dX0_stockOf_81 : decode cX0_stockOf 81 = .ok (.if_icmp .lt 50, 3) := by decide +kernel
theorem dX0_stockOf_84 : decode cX0_stockOf 84 = .ok (.aload_n 0, 1) := by decide +kernel
theorem dX0_stockOf_85 : decode cX0_stockOf 85 = .ok (.getfield 38, 3) := by decide +kernel
theorem dX0_stockOf_88 : decode cX0_stockOf 88 = .ok (.iload 8, 2) := by decide +kernel
theorem dX0_stockOf_90 : decode cX0_stockOf 90 = .ok (.aload_n 0, 1) := by decide +kernel
theorem dX0_stockOf_91 : decode cX0_stockOf 91 = .ok (.getfield 28, 3) := by decide +kernel
theorem dX0_stockOf_94 : decode cX0_stockOf 94 = .ok (.iload 7, 2) := by decide +kernel
theorem dX0_stockOf_96 : decode cX0_stockOf 96 = .ok (.iaload, 1) := by decide +kernel
theorem dX0_stockOf_97 : decode cX0_stockOf 97 = .ok (.iastore, 1) := by decide +kernel
theorem dX0_stockOf_98 : decode cX0_stockOf 98 = .ok (.aload_n 0, 1) := by decide +kernel
theorem dX0_stockOf_99 : decode cX0_stockOf 99 = .ok (.getfield 31, 3) := by decide +kernel
theorem dX0_stockOf_102 : decode cX0_stockOf 102 = .ok (.iload 7, 2) := by decide +kernel
theorem dX0_stockOf_104 : decode cX0_stockOf 104 = .ok (.baload, 1) := by decide +kernel
theorem dX0_stockOf_105 : decode cX0_stockOf 105 = .ok (.ifCond .eq 13, 3) := by decide +kernel
theorem dX0_stockOf_108 : decode cX0_stockOf 108 = .ok (.lload 5, 2) := by decide +kernel
theorem dX0_stockOf_110 : decode cX0_stockOf 110 = .ok (.lconst 1, 1) := by decide +kernel
theorem dX0_stockOf_111 : decode cX0_stockOf 111 = .ok (.iload 8, 2) := by decide +kernel
theorem dX0_stockOf_113 : decode cX0_stockOf 113 = .ok (.lshl, 1) := by decide +kernel
theorem dX0_stockOf_114 : decode cX0_stockOf 114 = .ok (.lor, 1) := by decide +kernel
theorem dX0_stockOf_115 : decode cX0_stockOf 115 = .ok (.goto 14, 3) := by decide +kernel
theorem dX0_stockOf_118 : decode cX0_stockOf 118 = .ok (.lload 5, 2) := by decide +kernel
theorem dX0_stockOf_120 : decode cX0_stockOf 120 = .ok (.lconst 1, 1) := by decide +kernel
theorem dX0_stockOf_121 : decode cX0_stockOf 121 = .ok (.iload 8, 2) := by decide +kernel
theorem dX0_stockOf_123 : decode cX0_stockOf 123 = .ok (.lshl, 1) := by decide +kernel
theorem dX0_stockOf_124 : decode cX0_stockOf 124 = .ok (.ldc2_w 54, 3) := by decide +kernel
theorem dX0_stockOf_127 : decode cX0_stockOf 127 = .ok (.lxor, 1) := by decide +kernel
theorem dX0_stockOf_128 : decode cX0_stockOf 128 = .ok (.land, 1) := by decide +kernel
theorem dX0_stockOf_129 : decode cX0_stockOf 129 = .ok (.lstore 5, 2) := by decide +kernel
theorem dX0_stockOf_131 : decode cX0_stockOf 131 = .ok (.iinc 7 1, 3) := by decide +kernel
theorem dX0_stockOf_134 : decode cX0_stockOf 134 = .ok (.goto (-105), 3) := by decide +kernel
theorem dX0_stockOf_137 : decode cX0_stockOf 137 = .ok (.lload 5, 2) := by decide +kernel
theorem dX0_stockOf_139 : decode cX0_stockOf 139 = .ok (.lreturn, 1) := by decide +kernel
theorem dX0_openAt_0 : decode cX0_openAt 0 = .ok (.iconst 0, 1) := by decide +kernel
theorem dX0_openAt_1 : decode cX0_openAt 1 = .ok (.istore_n 3, 1) := by decide +kernel
theorem dX0_openAt_2 : decode cX0_openAt 2 = .ok (.iload_n 3, 1) := by decide +kernel
theorem dX0_openAt_3 : decode cX0_openAt 3 = .ok (.aload_n 0, 1) := by decide +kernel
theorem dX0_openAt_4 : decode cX0_openAt 4 = .ok (.getfield 18, 3) := by decide +kernel
theorem dX0_openAt_7 : decode cX0_openAt 7 = .ok (.if_icmp .ge 22, 3) := by decide +kernel
theorem dX0_openAt_10 : decode cX0_openAt 10 = .ok (.aload_n 0, 1) := by decide +kernel
theorem dX0_openAt_11 : decode cX0_openAt 11 = .ok (.getfield 41, 3) := by decide +kernel
theorem dX0_openAt_14 : decode cX0_openAt 14 = .ok (.iload_n 3, 1) := by decide +kernel
theorem dX0_openAt_15 : decode cX0_openAt 15 = .ok (.aload_n 0, 1) := by decide +kernel
theorem dX0_openAt_16 : decode cX0_openAt 16 = .ok (.iload_n 3, 1) := by decide +kernel
theorem dX0_openAt_17 : decode cX0_openAt 17 = .ok (.iload_n 1, 1) := by decide +kernel
theorem dX0_openAt_18 : decode cX0_openAt 18 = .ok (.iload_n 2, 1) := by decide +kernel
theorem dX0_openAt_19 : decode cX0_openAt 19 = .ok (.invokevirtual 56, 3) := by decide +kernel
theorem dX0_openAt_22 : decode cX0_openAt 22 = .ok (.lastore, 1) := by decide +kernel
theorem dX0_openAt_23 : decode cX0_openAt 23 = .ok (.iinc 3 1, 3) := by decide +kernel
theorem dX0_openAt_26 : decode cX0_openAt 26 = .ok (.goto (-24), 3) := by decide +kernel
theorem dX0_openAt_29 : decode cX0_openAt 29 = .ok (.return_, 1) := by decide +kernel
theorem dX0_changes_0 : decode cX0_changes 0 = .ok (.aload_n 0, 1) := by decide +kernel
theorem dX0_changes_1 : decode cX0_changes 1 = .ok (.getfield 41, 3) := by decide +kernel
theorem dX0_changes_4 : decode cX0_changes 4 = .ok (.iload_n 1, 1) := by decide +kernel
theorem dX0_changes_5 : decode cX0_changes 5 = .ok (.laload, 1) := by decide +kernel
theorem dX0_changes_6 : decode cX0_changes 6 = .ok (.aload_n 0, 1) := by decide +kernel
theorem dX0_changes_7 : decode cX0_changes 7 = .ok (.getfield 41, 3) := by decide +kernel
theorem dX0_changes_10 : decode cX0_changes 10 = .ok (.iload_n 2, 1) := by decide +kernel
theorem dX0_changes_11 : decode cX0_changes 11 = .ok (.laload, 1) := by decide +kernel
theorem dX0_changes_12 : decode cX0_changes 12 = .ok (.lxor, 1) := by decide +kernel
theorem dX0_changes_13 : decode cX0_changes 13 = .ok (.invokestatic 60, 3) := by decide +kernel
theorem dX0_changes_16 : decode cX0_changes 16 = .ok (.ireturn, 1) := by decide +kernel
theorem dX0_masterOf_0 : decode cX0_masterOf 0 = .ok (.bipush (-5), 2) := by decide +kernel
theorem dX0_masterOf_2 : decode cX0_masterOf 2 = .ok (.istore_n 2, 1) := by decide +kernel
theorem dX0_masterOf_3 : decode cX0_masterOf 3 = .ok (.iconst 0, 1) := by decide +kernel
theorem dX0_masterOf_4 : decode cX0_masterOf 4 = .ok (.istore_n 3, 1) := by decide +kernel
theorem dX0_masterOf_5 : decode cX0_masterOf 5 = .ok (.iload_n 3, 1) := by decide +kernel
theorem dX0_masterOf_6 : decode cX0_masterOf 6 = .ok (.aload_n 0, 1) := by decide +kernel
theorem dX0_masterOf_7 : decode cX0_masterOf 7 = .ok (.getfield 18, 3) := by decide +kernel
theorem dX0_masterOf_10 : decode cX0_masterOf 10 = .ok (.if_icmp .ge 42, 3) := by decide +kernel
theorem dX0_masterOf_13 : decode cX0_masterOf 13 = .ok (.aload_n 0, 1) := by decide +kernel
theorem dX0_masterOf_14 : decode cX0_masterOf 14 = .ok (.getfield 9, 3) := by decide +kernel
theorem dX0_masterOf_17 : decode cX0_masterOf 17 = .ok (.iload_n 3, 1) := by decide +kernel
theorem dX0_masterOf_18 : decode cX0_masterOf 18 = .ok (.iaload, 1) := by decide +kernel
theorem dX0_masterOf_19 : decode cX0_masterOf 19 = .ok (.aload_n 0, 1) := by decide +kernel
theorem dX0_masterOf_20 : decode cX0_masterOf 20 = .ok (.getfield 9, 3) := by decide +kernel
theorem dX0_masterOf_23 : decode cX0_masterOf 23 = .ok (.iload_n 1, 1) := by decide +kernel
theorem dX0_masterOf_24 : decode cX0_masterOf 24 = .ok (.iaload, 1) := by decide +kernel
theorem dX0_masterOf_25 : decode cX0_masterOf 25 = .ok (.if_icmp .ge 21, 3) := by decide +kernel
theorem dX0_masterOf_28 : decode cX0_masterOf 28 = .ok (.iload_n 2, 1) := by decide +kernel
theorem dX0_masterOf_29 : decode cX0_masterOf 29 = .ok (.bipush (-5), 2) := by decide +kernel
theorem dX0_masterOf_31 : decode cX0_masterOf 31 = .ok (.if_icmp .eq 13, 3) := by decide +kernel
theorem dX0_masterOf_34 : decode cX0_masterOf 34 = .ok (.aload_n 0, 1) := by decide +kernel
theorem dX0_masterOf_35 : decode cX0_masterOf 35 = .ok (.iload_n 3, 1) := by decide +kernel
theorem dX0_masterOf_36 : decode cX0_masterOf 36 = .ok (.iload_n 2, 1) := by decide +kernel
theorem dX0_masterOf_37 : decode cX0_masterOf 37 = .ok (.iload_n 1, 1) := by decide +kernel
theorem dX0_masterOf_38 : decode cX0_masterOf 38 = .ok (.invokevirtual 66, 3) := by decide +kernel
theorem dX0_masterOf_41 : decode cX0_masterOf 41 = .ok (.ifCond .eq 5, 3) := by decide +kernel
theorem dX0_masterOf_44 : decode cX0_masterOf 44 = .ok (.iload_n 3, 1) := by decide +kernel
theorem dX0_masterOf_45 : decode cX0_masterOf 45 = .ok (.istore_n 2, 1) := by decide +kernel
theorem dX0_masterOf_46 : decode cX0_masterOf 46 = .ok (.iinc 3 1, 3) := by decide +kernel
theorem dX0_masterOf_49 : decode cX0_masterOf 49 = .ok (.goto (-44), 3) := by decide +kernel
theorem dX0_masterOf_52 : decode cX0_masterOf 52 = .ok (.iload_n 2, 1) := by decide +kernel
theorem dX0_masterOf_53 : decode cX0_masterOf 53 = .ok (.ireturn, 1) := by decide +kernel
theorem dX0_isNearer_0 : decode cX0_isNearer 0 = .ok (.aload_n 0, 1) := by decide +kernel
theorem dX0_isNearer_1 : decode cX0_isNearer 1 = .ok (.iload_n 1, 1) := by decide +kernel
theorem dX0_isNearer_2 : decode cX0_isNearer 2 = .ok (.iload_n 3, 1) := by decide +kernel
theorem dX0_isNearer_3 : decode cX0_isNearer 3 = .ok (.invokevirtual 70, 3) := by decide +kernel
theorem dX0_isNearer_6 : decode cX0_isNearer 6 = .ok (.aload_n 0, 1) := by decide +kernel
theorem dX0_isNearer_7 : decode cX0_isNearer 7 = .ok (.iload_n 2, 1) := by decide +kernel
theorem dX0_isNearer_8 : decode cX0_isNearer 8 = .ok (.iload_n 3, 1) := by decide +kernel
theorem dX0_isNearer_9 : decode cX0_isNearer 9 = .ok (.invokevirtual 70, 3) := by decide +kernel
theorem dX0_isNearer_12 : decode cX0_isNearer 12 = .ok (.isub, 1) := by decide +kernel
theorem dX0_isNearer_13 : decode cX0_isNearer 13 = .ok (.istore 4, 2) := by decide +kernel
theorem dX0_isNearer_15 : decode cX0_isNearer 15 = .ok (.iload 4, 2) := by decide +kernel
theorem dX0_isNearer_17 : decode cX0_isNearer 17 = .ok (.ifCond .eq 16, 3) := by decide +kernel
theorem dX0_isNearer_20 : decode cX0_isNearer 20 = .ok (.iload 4, 2) := by decide +kernel
theorem dX0_isNearer_22 : decode cX0_isNearer 22 = .ok (.ifCond .ge 7, 3) := by decide +kernel
theorem dX0_isNearer_25 : decode cX0_isNearer 25 = .ok (.iconst 1, 1) := by decide +kernel
theorem dX0_isNearer_26 : decode cX0_isNearer 26 = .ok (.goto 27, 3) := by decide +kernel
theorem dX0_isNearer_29 : decode cX0_isNearer 29 = .ok (.iconst 0, 1) := by decide +kernel
theorem dX0_isNearer_30 : decode cX0_isNearer 30 = .ok (.goto 23, 3) := by decide +kernel
theorem dX0_isNearer_33 : decode cX0_isNearer 33 = .ok (.aload_n 0, 1) := by decide +kernel
theorem dX0_isNearer_34 : decode cX0_isNearer 34 = .ok (.getfield 9, 3) := by decide +kernel
theorem dX0_isNearer_37 : decode cX0_isNearer 37 = .ok (.iload_n 1, 1) := by decide +kernel
theorem dX0_isNearer_38 : decode cX0_isNearer 38 = .ok (.iaload, 1) := by decide +kernel
theorem dX0_isNearer_39 : decode cX0_isNearer 39 = .ok (.aload_n 0, 1) := by decide +kernel
theorem dX0_isNearer_40 : decode cX0_isNearer 40 = .ok (.getfield 9, 3) := by decide +kernel
theorem dX0_isNearer_43 : decode cX0_isNearer 43 = .ok (.iload_n 2, 1) := by decide +kernel
theorem dX0_isNearer_44 : decode cX0_isNearer 44 = .ok (.iaload, 1) := by decide +kernel
theorem dX0_isNearer_45 : decode cX0_isNearer 45 = .ok (.if_icmp .le 7, 3) := by decide +kernel
theorem dX0_isNearer_48 : decode cX0_isNearer 48 = .ok (.iconst 1, 1) := by decide +kernel
theorem dX0_isNearer_49 : decode cX0_isNearer 49 = .ok (.goto 4, 3) := by decide +kernel
theorem dX0_isNearer_52 : decode cX0_isNearer 52 = .ok (.iconst 0, 1) := by decide +kernel
theorem dX0_isNearer_53 : decode cX0_isNearer 53 = .ok (.ireturn, 1) := by decide +kernel
theorem dX0_masterStock_0 : decode cX0_masterStock 0 = .ok (.aload_n 0, 1) := by decide +kernel
theorem dX0_masterStock_1 : decode cX0_masterStock 1 = .ok (.iload_n 1, 1) := by decide +kernel
theorem dX0_masterStock_2 : decode cX0_masterStock 2 = .ok (.invokevirtual 74, 3) := by decide +kernel
theorem dX0_masterStock_5 : decode cX0_masterStock 5 = .ok (.istore_n 2, 1) := by decide +kernel
theorem dX0_masterStock_6 : decode cX0_masterStock 6 = .ok (.iload_n 2, 1) := by decide +kernel
theorem dX0_masterStock_7 : decode cX0_masterStock 7 = .ok (.bipush (-5), 2) := by decide +kernel
theorem dX0_masterStock_9 : decode cX0_masterStock 9 = .ok (.if_icmp .ne 7, 3) := by decide +kernel
theorem dX0_masterStock_12 : decode cX0_masterStock 12 = .ok (.lconst 0, 1) := by decide +kernel
theorem dX0_masterStock_13 : decode cX0_masterStock 13 = .ok (.goto 9, 3) := by decide +kernel
theorem dX0_masterStock_16 : decode cX0_masterStock 16 = .ok (.aload_n 0, 1) := by decide +kernel
theorem dX0_masterStock_17 : decode cX0_masterStock 17 = .ok (.getfield 41, 3) := by decide +kernel
theorem dX0_masterStock_20 : decode cX0_masterStock 20 = .ok (.iload_n 2, 1) := by decide +kernel
theorem dX0_masterStock_21 : decode cX0_masterStock 21 = .ok (.laload, 1) := by decide +kernel
theorem dX0_masterStock_22 : decode cX0_masterStock 22 = .ok (.lreturn, 1) := by decide +kernel
theorem dX0_stockAround_0 : decode cX0_stockAround 0 = .ok (.aload_n 0, 1) := by decide +kernel
theorem dX0_stockAround_1 : decode cX0_stockAround 1 = .ok (.getfield 41, 3) := by decide +kernel
theorem dX0_stockAround_4 : decode cX0_stockAround 4 = .ok (.iload_n 1, 1) := by decide +kernel
theorem dX0_stockAround_5 : decode cX0_stockAround 5 = .ok (.laload, 1) := by decide +kernel
theorem dX0_stockAround_6 : decode cX0_stockAround 6 = .ok (.aload_n 0, 1) := by decide +kernel
theorem dX0_stockAround_7 : decode cX0_stockAround 7 = .ok (.iload_n 1, 1) := by decide +kernel
theorem dX0_stockAround_8 : decode cX0_stockAround 8 = .ok (.invokevirtual 78, 3) := by decide +kernel
theorem dX0_stockAround_11 : decode cX0_stockAround 11 = .ok (.lor, 1) := by decide +kernel
theorem dX0_stockAround_12 : decode cX0_stockAround 12 = .ok (.lstore_n 2, 1) := by decide +kernel
theorem dX0_stockAround_13 : decode cX0_stockAround 13 = .ok (.iconst 0, 1) := by decide +kernel
theorem dX0_stockAround_14 : decode cX0_stockAround 14 = .ok (.istore 4, 2) := by decide +kernel
theorem dX0_stockAround_16 : decode cX0_stockAround 16 = .ok (.iload 4, 2) := by decide +kernel
theorem dX0_stockAround_18 : decode cX0_stockAround 18 = .ok (.aload_n 0, 1) := by decide +kernel
theorem dX0_stockAround_19 : decode cX0_stockAround 19 = .ok (.getfield 18, 3) := by decide +kernel
theorem dX0_stockAround_22 : decode cX0_stockAround 22 = .ok (.if_icmp .ge 29, 3) := by decide +kernel
theorem dX0_stockAround_25 : decode cX0_stockAround 25 = .ok (.aload_n 0, 1) := by decide +kernel
theorem dX0_stockAround_26 : decode cX0_stockAround 26 = .ok (.iload 4, 2) := by decide +kernel
theorem dX0_stockAround_28 : decode cX0_stockAround 28 = .ok (.invokevirtual 74, 3) := by decide +kernel
theorem dX0_stockAround_31 : decode cX0_stockAround 31 = .ok (.iload_n 1, 1) := by decide +kernel
theorem dX0_stockAround_32 : decode cX0_stockAround 32 = .ok (.if_icmp .ne 13, 3) := by decide +kernel
theorem dX0_stockAround_35 : decode cX0_stockAround 35 = .ok (.lload_n 2, 1) := by decide +kernel
theorem dX0_stockAround_36 : decode cX0_stockAround 36 = .ok (.aload_n 0, 1) := by decide +kernel
theorem dX0_stockAround_37 : decode cX0_stockAround 37 = .ok (.getfield 41, 3) := by decide +kernel
theorem dX0_stockAround_40 : decode cX0_stockAround 40 = .ok (.iload 4, 2) := by decide +kernel
theorem dX0_stockAround_42 : decode cX0_stockAround 42 = .ok (.laload, 1) := by decide +kernel
theorem dX0_stockAround_43 : decode cX0_stockAround 43 = .ok (.lor, 1) := by decide +kernel
theorem dX0_stockAround_44 : decode cX0_stockAround 44 = .ok (.lstore_n 2, 1) := by decide +kernel
theorem dX0_stockAround_45 : decode cX0_stockAround 45 = .ok (.iinc 4 1, 3) := by decide +kernel
theorem dX0_stockAround_48 : decode cX0_stockAround 48 = .ok (.goto (-32), 3) := by decide +kernel
theorem dX0_stockAround_51 : decode cX0_stockAround 51 = .ok (.lload_n 2, 1) := by decide +kernel
theorem dX0_stockAround_52 : decode cX0_stockAround 52 = .ok (.lreturn, 1) := by decide +kernel
theorem dX0_commonStock_0 : decode cX0_commonStock 0 = .ok (.aload_n 0, 1) := by decide +kernel
theorem dX0_commonStock_1 : decode cX0_commonStock 1 = .ok (.getfield 18, 3) := by decide +kernel
theorem dX0_commonStock_4 : decode cX0_commonStock 4 = .ok (.ifCond .ne 5, 3) := by decide +kernel
theorem dX0_commonStock_7 : decode cX0_commonStock 7 = .ok (.lconst 0, 1) := by decide +kernel
theorem dX0_commonStock_8 : decode cX0_commonStock 8 = .ok (.lreturn, 1) := by decide +kernel
theorem dX0_commonStock_9 : decode cX0_commonStock 9 = .ok (.aload_n 0, 1) := by decide +kernel
theorem dX0_commonStock_10 : decode cX0_commonStock 10 = .ok (.getfield 41, 3) := by decide +kernel
theorem dX0_commonStock_13 : decode cX0_commonStock 13 = .ok (.iconst 0, 1) := by decide +kernel
theorem dX0_commonStock_14 : decode cX0_commonStock 14 = .ok (.laload, 1) := by decide +kernel
theorem dX0_commonStock_15 : decode cX0_commonStock 15 = .ok (.lstore_n 1, 1) := by decide +kernel
theorem dX0_commonStock_16 : decode cX0_commonStock 16 = .ok (.iconst 1, 1) := by decide +kernel
theorem dX0_commonStock_17 : decode cX0_commonStock 17 = .ok (.istore_n 3, 1) := by decide +kernel
theorem dX0_commonStock_18 : decode cX0_commonStock 18 = .ok (.iload_n 3, 1) := by decide +kernel
theorem dX0_commonStock_19 : decode cX0_commonStock 19 = .ok (.aload_n 0, 1) := by decide +kernel
theorem dX0_commonStock_20 : decode cX0_commonStock 20 = .ok (.getfield 18, 3) := by decide +kernel
theorem dX0_commonStock_23 : decode cX0_commonStock 23 = .ok (.if_icmp .ge 18, 3) := by decide +kernel
theorem dX0_commonStock_26 : decode cX0_commonStock 26 = .ok (.lload_n 1, 1) := by decide +kernel
theorem dX0_commonStock_27 : decode cX0_commonStock 27 = .ok (.aload_n 0, 1) := by decide +kernel
theorem dX0_commonStock_28 : decode cX0_commonStock 28 = .ok (.getfield 41, 3) := by decide +kernel
theorem dX0_commonStock_31 : decode cX0_commonStock 31 = .ok (.iload_n 3, 1) := by decide +kernel
theorem dX0_commonStock_32 : decode cX0_commonStock 32 = .ok (.laload, 1) := by decide +kernel
theorem dX0_commonStock_33 : decode cX0_commonStock 33 = .ok (.land, 1) := by decide +kernel
theorem dX0_commonStock_34 : decode cX0_commonStock 34 = .ok (.lstore_n 1, 1) := by decide +kernel
theorem dX0_commonStock_35 : decode cX0_commonStock 35 = .ok (.iinc 3 1, 3) := by decide +kernel
theorem dX0_commonStock_38 : decode cX0_commonStock 38 = .ok (.goto (-20), 3) := by decide +kernel
theorem dX0_commonStock_41 : decode cX0_commonStock 41 = .ok (.lload_n 1, 1) := by decide +kernel
theorem dX0_commonStock_42 : decode cX0_commonStock 42 = .ok (.lreturn, 1) := by decide +kernel
theorem dX0_villageWithMost_0 : decode cX0_villageWithMost 0 = .ok (.aload_n 0, 1) := by decide +kernel
theorem dX0_villageWithMost_1 : decode cX0_villageWithMost 1 = .ok (.getfield 45, 3) := by decide +kernel
theorem dX0_villageWithMost_4 : decode cX0_villageWithMost 4 = .ok (.iconst 0, 1) := by decide +kernel
theorem dX0_villageWithMost_5 : decode cX0_villageWithMost 5 = .ok (.invokestatic 48, 3) := by decide +kernel
theorem dX0_villageWithMost_8 : decode cX0_villageWithMost 8 = .ok (.iconst 0, 1) := by decide +kernel
theorem dX0_villageWithMost_9 : decode cX0_villageWithMost 9 = .ok (.istore_n 2, 1) := by decide +kernel
theorem dX0_villageWithMost_10 : decode cX0_villageWithMost 10 = .ok (.iload_n 2, 1) := by decide +kernel
theorem dX0_villageWithMost_11 : decode cX0_villageWithMost 11 = .ok (.aload_n 0, 1) := by decide +kernel
theorem dX0_villageWithMost_12 : decode cX0_villageWithMost 12 = .ok (.getfield 18, 3) := by decide +kernel
theorem dX0_villageWithMost_15 : decode cX0_villageWithMost 15 = .ok (.if_icmp .ge 33, 3) := by decide +kernel
theorem dX0_villageWithMost_18 : decode cX0_villageWithMost 18 = .ok (.aload_n 0, 1) := by decide +kernel
theorem dX0_villageWithMost_19 : decode cX0_villageWithMost 19 = .ok (.getfield 45, 3) := by decide +kernel
theorem dX0_villageWithMost_22 : decode cX0_villageWithMost 22 = .ok (.aload_n 0, 1) := by decide +kernel
theorem dX0_villageWithMost_23 : decode cX0_villageWithMost 23 = .ok (.getfield 15, 3) := by decide +kernel
theorem dX0_villageWithMost_26 : decode cX0_villageWithMost 26 = .ok (.iload_n 2, 1) := by decide +kernel
theorem dX0_villageWithMost_27 : decode cX0_villageWithMost 27 = .ok (.iaload, 1) := by decide +kernel
theorem dX0_villageWithMost_28 : decode cX0_villageWithMost 28 = .ok (.dup2, 1) := by decide +kernel
theorem dX0_villageWithMost_29 : decode cX0_villageWithMost 29 = .ok (.iaload, 1) := by decide +kernel
theorem dX0_villageWithMost_30 : decode cX0_villageWithMost 30 = .ok (.aload_n 0, 1) := by decide +kernel
theorem dX0_villageWithMost_31 : decode cX0_villageWithMost 31 = .ok (.getfield 41, 3) := by decide +kernel
theorem dX0_villageWithMost_34 : decode cX0_villageWithMost 34 = .ok (.iload_n 2, 1) := by decide +kernel
theorem dX0_villageWithMost_35 : decode cX0_villageWithMost 35 = .ok (.laload, 1) := by decide +kernel
theorem dX0_villageWithMost_36 : decode cX0_villageWithMost 36 = .ok (.iload_n 1, 1) := by decide +kernel
theorem dX0_villageWithMost_37 : decode cX0_villageWithMost 37 = .ok (.invokestatic 82, 3) := by decide +kernel
theorem dX0_villageWithMost_40 : decode cX0_villageWithMost 40 = .ok (.iadd, 1) := by decide +kernel
theorem dX0_villageWithMost_41 : decode cX0_villageWithMost 41 = .ok (.iastore, 1) := by decide +kernel
theorem dX0_villageWithMost_42 : decode cX0_villageWithMost 42 = .ok (.iinc 2 1, 3) := by decide +kernel
theorem dX0_villageWithMost_45 : decode cX0_villageWithMost 45 = .ok (.goto (-35), 3) := by decide +kernel
theorem dX0_villageWithMost_48 : decode cX0_villageWithMost 48 = .ok (.iconst 0, 1) := by decide +kernel
theorem dX0_villageWithMost_49 : decode cX0_villageWithMost 49 = .ok (.istore_n 2, 1) := by decide +kernel
theorem dX0_villageWithMost_50 : decode cX0_villageWithMost 50 = .ok (.iconst 1, 1) := by decide +kernel
theorem dX0_villageWithMost_51 : decode cX0_villageWithMost 51 = .ok (.istore_n 3, 1) := by decide +kernel
theorem dX0_villageWithMost_52 : decode cX0_villageWithMost 52 = .ok (.iload_n 3, 1) := by decide +kernel
theorem dX0_villageWithMost_53 : decode cX0_villageWithMost 53 = .ok (.bipush 10, 2) := by decide +kernel
theorem dX0_villageWithMost_55 : decode cX0_villageWithMost 55 = .ok (.if_icmp .ge 26, 3) := by decide +kernel
theorem dX0_villageWithMost_58 : decode cX0_villageWithMost 58 = .ok (.aload_n 0, 1) := by decide +kernel
theorem dX0_villageWithMost_59 : decode cX0_villageWithMost 59 = .ok (.getfield 45, 3) := by decide +kernel
theorem dX0_villageWithMost_62 : decode cX0_villageWithMost 62 = .ok (.iload_n 3, 1) := by decide +kernel
theorem dX0_villageWithMost_63 : decode cX0_villageWithMost 63 = .ok (.iaload, 1) := by decide +kernel
theorem dX0_villageWithMost_64 : decode cX0_villageWithMost 64 = .ok (.aload_n 0, 1) := by decide +kernel
theorem dX0_villageWithMost_65 : decode cX0_villageWithMost 65 = .ok (.getfield 45, 3) := by decide +kernel
theorem dX0_villageWithMost_68 : decode cX0_villageWithMost 68 = .ok (.iload_n 2, 1) := by decide +kernel
theorem dX0_villageWithMost_69 : decode cX0_villageWithMost 69 = .ok (.iaload, 1) := by decide +kernel
theorem dX0_villageWithMost_70 : decode cX0_villageWithMost 70 = .ok (.if_icmp .le 5, 3) := by decide +kernel
theorem dX0_villageWithMost_73 : decode cX0_villageWithMost 73 = .ok (.iload_n 3, 1) := by decide +kernel
theorem dX0_villageWithMost_74 : decode cX0_villageWithMost 74 = .ok (.istore_n 2, 1) := by decide +kernel
theorem dX0_villageWithMost_75 : decode cX0_villageWithMost 75 = .ok (.iinc 3 1, 3) := by decide +kernel
theorem dX0_villageWithMost_78 : decode cX0_villageWithMost 78 = .ok (.goto (-26), 3) := by decide +kernel
theorem dX0_villageWithMost_81 : decode cX0_villageWithMost 81 = .ok (.aload_n 0, 1) := by decide +kernel
theorem dX0_villageWithMost_82 : decode cX0_villageWithMost 82 = .ok (.getfield 45, 3) := by decide +kernel
theorem dX0_villageWithMost_85 : decode cX0_villageWithMost 85 = .ok (.iload_n 2, 1) := by decide +kernel
theorem dX0_villageWithMost_86 : decode cX0_villageWithMost 86 = .ok (.iaload, 1) := by decide +kernel
theorem dX0_villageWithMost_87 : decode cX0_villageWithMost 87 = .ok (.ifCond .ne 8, 3) := by decide +kernel
theorem dX0_villageWithMost_90 : decode cX0_villageWithMost 90 = .ok (.bipush (-5), 2) := by decide +kernel
theorem dX0_villageWithMost_92 : decode cX0_villageWithMost 92 = .ok (.goto 4, 3) := by decide +kernel
theorem dX0_villageWithMost_95 : decode cX0_villageWithMost 95 = .ok (.iload_n 2, 1) := by decide +kernel
theorem dX0_villageWithMost_96 : decode cX0_villageWithMost 96 = .ok (.ireturn, 1) := by decide +kernel
theorem dX1_init_0 : decode cX1_init 0 = .ok (.aload_n 0, 1) := by decide +kernel
theorem dX1_init_1 : decode cX1_init 1 = .ok (.invokespecial 3, 3) := by decide +kernel
theorem dX1_init_4 : decode cX1_init 4 = .ok (.aload_n 0, 1) := by decide +kernel
theorem dX1_init_5 : decode cX1_init 5 = .ok (.sipush 12350, 3) := by decide +kernel
theorem dX1_init_8 : decode cX1_init 8 = .ok (.newarray .int, 2) := by decide +kernel
theorem dX1_init_10 : decode cX1_init 10 = .ok (.putfield 11, 3) := by decide +kernel
theorem dX1_init_13 : decode cX1_init 13 = .ok (.aload_n 0, 1) := by decide +kernel
theorem dX1_init_14 : decode cX1_init 14 = .ok (.sipush 192, 3) := by decide +kernel
theorem dX1_init_17 : decode cX1_init 17 = .ok (.newarray .int, 2) := by decide +kernel
theorem dX1_init_19 : decode cX1_init 19 = .ok (.putfield 15, 3) := by decide +kernel
theorem dX1_init_22 : decode cX1_init 22 = .ok (.aload_n 0, 1) := by decide +kernel
theorem dX1_init_23 : decode cX1_init 23 = .ok (.lconst 0, 1) := by decide +kernel
theorem dX1_init_24 : decode cX1_init 24 = .ok (.putfield 18, 3) := by decide +kernel
theorem dX1_init_27 : decode cX1_init 27 = .ok (.aload_n 0, 1) := by decide +kernel
theorem dX1_init_28 : decode cX1_init 28 = .ok (.iconst 0, 1) := by decide +kernel
theorem dX1_init_29 : decode cX1_init 29 = .ok (.putfield 22, 3) := by decide +kernel
theorem dX1_init_32 : decode cX1_init 32 = .ok (.aload_n 0, 1) := by decide +kernel
theorem dX1_init_33 : decode cX1_init 33 = .ok (.bipush 8, 2) := by decide +kernel
theorem dX1_init_35 : decode cX1_init 35 = .ok (.putfield 26, 3) := by decide +kernel
theorem dX1_init_38 : decode cX1_init 38 = .ok (.aload_n 0, 1) := by decide +kernel
theorem dX1_init_39 : decode cX1_init 39 = .ok (.aload_n 1, 1) := by decide +kernel
theorem dX1_init_40 : decode cX1_init 40 = .ok (.putfield 29, 3) := by decide +kernel
theorem dX1_init_43 : decode cX1_init 43 = .ok (.aload_n 0, 1) := by decide +kernel
theorem dX1_init_44 : decode cX1_init 44 = .ok (.aload_n 2, 1) := by decide +kernel
theorem dX1_init_45 : decode cX1_init 45 = .ok (.putfield 33, 3) := by decide +kernel
theorem dX1_init_48 : decode cX1_init 48 = .ok (.return_, 1) := by decide +kernel
theorem dX1_take_0 : decode cX1_take 0 = .ok (.aload_n 0, 1) := by decide +kernel
theorem dX1_take_1 : decode cX1_take 1 = .ok (.lload 4, 2) := by decide +kernel
theorem dX1_take_3 : decode cX1_take 3 = .ok (.putfield 18, 3) := by decide +kernel
theorem dX1_take_6 : decode cX1_take 6 = .ok (.aload_n 0, 1) := by decide +kernel
theorem dX1_take_7 : decode cX1_take 7 = .ok (.iload_n 3, 1) := by decide +kernel
theorem dX1_take_8 : decode cX1_take 8 = .ok (.putfield 22, 3) := by decide +kernel
theorem dX1_take_11 : decode cX1_take 11 = .ok (.iconst 0, 1) := by decide +kernel
theorem dX1_take_12 : decode cX1_take 12 = .ok (.istore 6, 2) := by decide +kernel
theorem dX1_take_14 : decode cX1_take 14 = .ok (.iload 6, 2) := by decide +kernel
theorem dX1_take_16 : decode cX1_take 16 = .ok (.iload_n 3, 1) := by decide +kernel
theorem dX1_take_17 : decode cX1_take 17 = .ok (.if_icmp .ge 85, 3) := by decide +kernel
theorem dX1_take_20 : decode cX1_take 20 = .ok (.aload_n 1, 1) := by decide +kernel
theorem dX1_take_21 : decode cX1_take 21 = .ok (.iload_n 2, 1) := by decide +kernel
theorem dX1_take_22 : decode cX1_take 22 = .ok (.iload 6, 2) := by decide +kernel
theorem dX1_take_24 : decode cX1_take 24 = .ok (.iadd, 1) := by decide +kernel
theorem dX1_take_25 : decode cX1_take 25 = .ok (.iaload, 1) := by decide +kernel
theorem dX1_take_26 : decode cX1_take 26 = .ok (.istore 7, 2) := by decide +kernel
theorem dX1_take_28 : decode cX1_take 28 = .ok (.iconst 0, 1) := by decide +kernel
theorem dX1_take_29 : decode cX1_take 29 = .ok (.istore 8, 2) := by decide +kernel
theorem dX1_take_31 : decode cX1_take 31 = .ok (.iload 8, 2) := by decide +kernel
theorem dX1_take_33 : decode cX1_take 33 = .ok (.bipush 8, 2) := by decide +kernel
theorem dX1_take_35 : decode cX1_take 35 = .ok (.if_icmp .ge 61, 3) := by decide +kernel
theorem dX1_take_38 : decode cX1_take 38 = .ok (.aload_n 0, 1) := by decide +kernel
theorem dX1_take_39 : decode cX1_take 39 = .ok (.getfield 18, 3) := by decide +kernel
theorem dX1_take_42 : decode cX1_take 42 = .ok (.aload_n 0, 1) := by decide +kernel
theorem dX1_take_43 : decode cX1_take 43 = .ok (.getfield 29, 3) := by decide +kernel
theorem dX1_take_46 : decode cX1_take 46 = .ok (.getfield 37, 3) := by decide +kernel
theorem dX1_take_49 : decode cX1_take 49 = .ok (.iload 8, 2) := by decide +kernel
theorem dX1_take_51 : decode cX1_take 51 = .ok (.laload, 1) := by decide +kernel
theorem dX1_take_52 : decode cX1_take 52 = .ok (.land, 1) := by decide +kernel
theorem dX1_take_53 : decode cX1_take 53 = .ok (.lstore 9, 2) := by decide +kernel
theorem dX1_take_55 : decode cX1_take 55 = .ok (.aload_n 0, 1) := by decide +kernel
theorem dX1_take_56 : decode cX1_take 56 = .ok (.getfield 15, 3) := by decide +kernel
theorem dX1_take_59 : decode cX1_take 59 = .ok (.iload 6, 2) := by decide +kernel
theorem dX1_take_61 : decode cX1_take 61 = .ok (.bipush 8, 2) := by decide +kernel
theorem dX1_take_63 : decode cX1_take 63 = .ok (.imul, 1) := by decide +kernel
theorem dX1_take_64 : decode cX1_take 64 = .ok (.iload 8, 2) := by decide +kernel
theorem dX1_take_66 : decode cX1_take 66 = .ok (.iadd, 1) := by decide +kernel
theorem dX1_take_67 : decode cX1_take 67 = .ok (.iload 7, 2) := by decide +kernel
theorem dX1_take_69 : decode cX1_take 69 = .ok (.bipush 40, 2) := by decide +kernel
theorem dX1_take_71 : decode cX1_take 71 = .ok (.if_icmp .ne 11, 3) := by decide +kernel
theorem dX1_take_74 : decode cX1_take 74 = .ok (.lload 9, 2) := by decide +kernel
theorem dX1_take_76 : decode cX1_take 76 = .ok (.invokestatic 43, 3) := by decide +kernel
theorem dX1_take_79 : decode cX1_take 79 = .ok (.goto 10, 3) := by decide +kernel
theorem dX1_take_82 : decode cX1_take 82 = .ok (.lload 9, 2) := by decide +kernel
theorem dX1_take_84 : decode cX1_take 84 = .ok (.iload 7, 2) := by decide +kernel
theorem dX1_take_86 : decode cX1_take 86 = .ok (.invokestatic 49, 3) := by decide +kernel
theorem dX1_take_89 : decode cX1_take 89 = .ok (.iastore, 1) := by decide +kernel
theorem dX1_take_90 : decode cX1_take 90 = .ok (.iinc 8 1, 3) := by decide +kernel
theorem dX1_take_93 : decode cX1_take 93 = .ok (.goto (-62), 3) := by decide +kernel
theorem dX1_take_96 : decode cX1_take 96 = .ok (.iinc 6 1, 3) := by decide +kernel
theorem dX1_take_99 : decode cX1_take 99 = .ok (.goto (-85), 3) := by decide +kernel
theorem dX1_take_102 : decode cX1_take 102 = .ok (.return_, 1) := by decide +kernel
theorem dX1_allowOnly_0 : decode cX1_allowOnly 0 = .ok (.iconst 0, 1) := by decide +kernel
theorem dX1_allowOnly_1 : decode cX1_allowOnly 1 = .ok (.istore_n 3, 1) := by decide +kernel
theorem dX1_allowOnly_2 : decode cX1_allowOnly 2 = .ok (.iload_n 3, 1) := by decide +kernel
theorem dX1_allowOnly_3 : decode cX1_allowOnly 3 = .ok (.bipush 8, 2) := by decide +kernel
theorem dX1_allowOnly_5 : decode cX1_allowOnly 5 = .ok (.if_icmp .ge 30, 3) := by decide +kernel
theorem dX1_allowOnly_8 : decode cX1_allowOnly 8 = .ok (.aload_n 0, 1) := by decide +kernel
theorem dX1_allowOnly_9 : decode cX1_allowOnly 9 = .ok (.getfield 15, 3) := by decide +kernel
theorem dX1_allowOnly_12 : decode cX1_allowOnly 12 = .ok (.iload_n 1, 1) := by decide +kernel
theorem dX1_allowOnly_13 : decode cX1_allowOnly 13 = .ok (.bipush 8, 2) := by decide +kernel
theorem dX1_allowOnly_15 : decode cX1_allowOnly 15 = .ok (.imul, 1) := by decide +kernel
theorem dX1_allowOnly_16 : decode cX1_allowOnly 16 = .ok (.iload_n 3, 1) := by decide +kernel
theorem dX1_allowOnly_17 : decode cX1_allowOnly 17 = .ok (.iadd, 1) := by decide +kernel
theorem dX1_allowOnly_18 : decode cX1_allowOnly 18 = .ok (.iload_n 3, 1) := by decide +kernel
theorem dX1_allowOnly_19 : decode cX1_allowOnly 19 = .ok (.iload_n 2, 1) := by decide +kernel
theorem dX1_allowOnly_20 : decode cX1_allowOnly 20 = .ok (.if_icmp .ne 7, 3) := by decide +kernel
theorem dX1_allowOnly_23 : decode cX1_allowOnly 23 = .ok (.iconst 1, 1) := by decide +kernel
theorem dX1_allowOnly_24 : decode cX1_allowOnly 24 = .ok (.goto 4, 3) := by decide +kernel
theorem dX1_allowOnly_27 : decode cX1_allowOnly 27 = .ok (.iconst 0, 1) := by decide +kernel
theorem dX1_allowOnly_28 : decode cX1_allowOnly 28 = .ok (.iastore, 1) := by decide +kernel
theorem dX1_allowOnly_29 : decode cX1_allowOnly 29 = .ok (.iinc 3 1, 3) := by decide +kernel
theorem dX1_allowOnly_32 : decode cX1_allowOnly 32 = .ok (.goto (-30), 3) := by decide +kernel
theorem dX1_allowOnly_35 : decode cX1_allowOnly 35 = .ok (.return_, 1) := by decide +kernel
theorem dX1_ways_0 : decode cX1_ways 0 = .ok (.aload_n 0, 1) := by decide +kernel
theorem dX1_ways_1 : decode cX1_ways 1 = .ok (.getfield 33, 3) := by decide +kernel
theorem dX1_ways_4 : decode cX1_ways 4 = .ok (.iload_n 1, 1) := by decide +kernel
theorem dX1_ways_5 : decode cX1_ways 5 = .ok (.invokevirtual 53, 3) := by decide +kernel
theorem dX1_ways_8 : decode cX1_ways 8 = .ok (.istore_n 2, 1) := by decide +kernel
theorem dX1_ways_9 : decode cX1_ways 9 = .ok (.iconst 0, 1) := by decide +kernel
theorem dX1_ways_10 : decode cX1_ways 10 = .ok (.istore_n 3, 1) := by decide +kernel
theorem dX1_ways_11 : decode cX1_ways 11 = .ok (.iload_n 3, 1) := by decide +kernel
theorem dX1_ways_12 : decode cX1_ways 12 = .ok (.aload_n 0, 1) := by decide +kernel
theorem dX1_ways_13 : decode cX1_ways 13 = .ok (.getfield 33, 3) := by decide +kernel
theorem dX1_ways_16 : decode cX1_ways 16 = .ok (.getfield 59, 3) := by decide +kernel
theorem dX1_ways_19 : decode cX1_ways 19 = .ok (.if_icmp .ge 39, 3) := by decide +kernel
theorem dX1_ways_22 : decode cX1_ways 22 = .ok (.iload_n 2, 1) := by decide +kernel
theorem dX1_ways_23 : decode cX1_ways 23 = .ok (.aload_n 0, 1) := by decide +kernel
theorem dX1_ways_24 : decode cX1_ways 24 = .ok (.getfield 33, 3) := by decide +kernel
theorem dX1_ways_27 : decode cX1_ways 27 = .ok (.getfield 62, 3) := by decide +kernel
theorem dX1_ways_30 : decode cX1_ways 30 = .ok (.iload_n 3, 1) := by decide +kernel
theorem dX1_ways_31 : decode cX1_ways 31 = .ok (.iaload, 1) := by decide +kernel
theorem dX1_ways_32 : decode cX1_ways 32 = .ok (.ishr, 1) := by decide +kernel
theorem dX1_ways_33 : decode cX1_ways 33 = .ok (.iconst 1, 1) := by decide +kernel
theorem dX1_ways_34 : decode cX1_ways 34 = .ok (.iand, 1) := by decide +kernel
theorem dX1_ways_35 : decode cX1_ways 35 = .ok (.iconst 1, 1) := by decide +kernel
theorem dX1_ways_36 : decode cX1_ways 36 = .ok (.if_icmp .ne 16, 3) := by decide +kernel
theorem dX1_ways_39 : decode cX1_ways 39 = .ok (.aload_n 0, 1) := by decide +kernel
theorem dX1_ways_40 : decode cX1_ways 40 = .ok (.aload_n 0, 1) := by decide +kernel
theorem dX1_ways_41 : decode cX1_ways 41 = .ok (.getfield 33, 3) := by decide +kernel
theorem dX1_ways_44 : decode cX1_ways 44 = .ok (.getfield 62, 3) := by decide +kernel
theorem dX1_ways_47 : decode cX1_ways 47 = .ok (.iload_n 3, 1) := by decide +kernel
theorem dX1_ways_48 : decode cX1_ways 48 = .ok (.iaload, 1) := by decide +kernel
theorem dX1_ways_49 : decode cX1_ways 49 = .ok (.invokevirtual 65, 3) := by decide +kernel
theorem dX1_ways_52 : decode cX1_ways 52 = .ok (.iinc 3 1, 3) := by decide +kernel
theorem dX1_ways_55 : decode cX1_ways 55 = .ok (.goto (-44), 3) := by decide +kernel
theorem dX1_ways_58 : decode cX1_ways 58 = .ok (.aload_n 0, 1) := by decide +kernel
theorem dX1_ways_59 : decode cX1_ways 59 = .ok (.getfield 11, 3) := by decide +kernel
theorem dX1_ways_62 : decode cX1_ways 62 = .ok (.aload_n 0, 1) := by decide +kernel
theorem dX1_ways_63 : decode cX1_ways 63 = .ok (.iload_n 1, 1) := by decide +kernel
theorem dX1_ways_64 : decode cX1_ways 64 = .ok (.iconst 0, 1) := by decide +kernel
theorem dX1_ways_65 : decode cX1_ways 65 = .ok (.aload_n 0, 1) := by decide +kernel
theorem dX1_ways_66 : decode cX1_ways 66 = .ok (.getfield 22, 3) := by decide +kernel
theorem dX1_ways_69 : decode cX1_ways 69 = .ok (.invokevirtual 69, 3) := by decide +kernel
theorem dX1_ways_72 : decode cX1_ways 72 = .ok (.iaload, 1) := by decide +kernel
theorem dX1_ways_73 : decode cX1_ways 73 = .ok (.ireturn, 1) := by decide +kernel
theorem dX1_onlyLine_0 : decode cX1_onlyLine 0 = .ok (.iconst (-1), 1) := by decide +kernel
theorem dX1_onlyLine_1 : decode cX1_onlyLine 1 = .ok (.istore_n 3, 1) := by decide +kernel
theorem dX1_onlyLine_2 : decode cX1_onlyLine 2 = .ok (.iconst 0, 1) := by decide +kernel
theorem dX1_onlyLine_3 : decode cX1_onlyLine 3 = .ok (.istore 4, 2) := by decide +kernel
theorem dX1_onlyLine_5 : decode cX1_onlyLine 5 = .ok (.iload 4, 2) := by decide +kernel
theorem dX1_onlyLine_7 : decode cX1_onlyLine 7 = .ok (.bipush 8, 2) := by decide +kernel
theorem dX1_onlyLine_9 : decode cX1_onlyLine 9 = .ok (.if_icmp .ge 71, 3) := by decide +kernel
theorem dX1_onlyLine_12 : decode cX1_onlyLine 12 = .ok (.aload_n 0, 1) := by decide +kernel
theorem dX1_onlyLine_13 : decode cX1_onlyLine 13 = .ok (.getfield 18, 3) := by decide +kernel
theorem dX1_onlyLine_16 : decode cX1_onlyLine 16 = .ok (.aload_n 0, 1) := by decide +kernel
theorem dX1_onlyLine_17 : decode cX1_onlyLine 17 = .ok (.getfield 29, 3) := by decide +kernel
theorem dX1_onlyLine_20 : decode cX1_onlyLine 20 = .ok (.getfield 37, 3) := by decide +kernel
theorem dX1_onlyLine_23 : decode cX1_onlyLine 23 = .ok (.iload 4, 2) := by decide +kernel
theorem dX1_onlyLine_25 : decode cX1_onlyLine 25 = .ok (.laload, 1) := by decide +kernel
theorem dX1_onlyLine_26 : decode cX1_onlyLine 26 = .ok (.land, 1) := by decide +kernel
theorem dX1_onlyLine_27 : decode cX1_onlyLine 27 = .ok (.lstore 5, 2) := by decide +kernel
theorem dX1_onlyLine_29 : decode cX1_onlyLine 29 = .ok (.lload 5, 2) := by decide +kernel
theorem dX1_onlyLine_31 : decode cX1_onlyLine 31 = .ok (.lconst 0, 1) := by decide +kernel
theorem dX1_onlyLine_32 : decode cX1_onlyLine 32 = .ok (.lcmp, 1) := by decide +kernel
theorem dX1_onlyLine_33 : decode cX1_onlyLine 33 = .ok (.ifCond .eq 41, 3) := by decide +kernel
theorem dX1_onlyLine_36 : decode cX1_onlyLine 36 = .ok (.aload_n 0, 1) := by decide +kernel
theorem dX1_onlyLine_37 : decode cX1_onlyLine 37 = .ok (.iload_n 2, 1) := by decide +kernel
theorem dX1_onlyLine_38 : decode cX1_onlyLine 38 = .ok (.iload 4, 2) := by decide +kernel
theorem dX1_onlyLine_40 : decode cX1_onlyLine 40 = .ok (.invokevirtual 73, 3) := by decide +kernel
theorem dX1_onlyLine_43 : decode cX1_onlyLine 43 = .ok (.aload_n 0, 1) := by decide +kernel
theorem dX1_onlyLine_44 : decode cX1_onlyLine 44 = .ok (.iload_n 1, 1) := by decide +kernel
theorem dX1_onlyLine_45 : decode cX1_onlyLine 45 = .ok (.invokevirtual 77, 3) := by decide +kernel
theorem dX1_onlyLine_48 : decode cX1_onlyLine 48 = .ok (.ifCond .le 26, 3) := by decide +kernel
theorem dX1_onlyLine_51 : decode cX1_onlyLine 51 = .ok (.iload_n 3, 1) := by decide +kernel
theorem dX1_onlyLine_52 : decode cX1_onlyLine 52 = .ok (.iconst (-1), 1) := by decide +kernel
theorem dX1_onlyLine_53 : decode cX1_onlyLine 53 = .ok (.if_icmp .ne 12, 3) := by decide +kernel
theorem dX1_onlyLine_56 : decode cX1_onlyLine 56 = .ok (.lload 5, 2) := by decide +kernel
theorem dX1_onlyLine_58 : decode cX1_onlyLine 58 = .ok (.invokestatic 43, 3) := by decide +kernel
theorem dX1_onlyLine_61 : decode cX1_onlyLine 61 = .ok (.iconst 1, 1) := by decide +kernel
theorem dX1_onlyLine_62 : decode cX1_onlyLine 62 = .ok (.if_icmp .le 5, 3) := by decide +kernel
theorem dX1_onlyLine_65 : decode cX1_onlyLine 65 = .ok (.iconst (-1), 1) := by decide +kernel
theorem dX1_onlyLine_66 : decode cX1_onlyLine 66 = .ok (.ireturn, 1) := by decide +kernel
theorem dX1_onlyLine_67 : decode cX1_onlyLine 67 = .ok (.lload 5, 2) := by decide +kernel
theorem dX1_onlyLine_69 : decode cX1_onlyLine 69 = .ok (.iconst 0, 1) := by decide +kernel
theorem dX1_onlyLine_70 : decode cX1_onlyLine 70 = .ok (.invokestatic 80, 3) := by decide +kernel
theorem dX1_onlyLine_73 : decode cX1_onlyLine 73 = .ok (.istore_n 3, 1) := by decide +kernel
theorem dX1_onlyLine_74 : decode cX1_onlyLine 74 = .ok (.iinc 4 1, 3) := by decide +kernel
theorem dX1_onlyLine_77 : decode cX1_onlyLine 77 = .ok (.goto (-72), 3) := by decide +kernel
theorem dX1_onlyLine_80 : decode cX1_onlyLine 80 = .ok (.iload_n 3, 1) := by decide +kernel
theorem dX1_onlyLine_81 : decode cX1_onlyLine 81 = .ok (.ireturn, 1) := by decide +kernel
theorem dX1_fillTable_0 : decode cX1_fillTable 0 = .ok (.aload_n 0, 1) := by decide +kernel
theorem dX1_fillTable_1 : decode cX1_fillTable 1 = .ok (.bipush 8, 2) := by decide +kernel
theorem dX1_fillTable_3 : decode cX1_fillTable 3 = .ok (.putfield 26, 3) := by decide +kernel
theorem dX1_fillTable_6 : decode cX1_fillTable 6 = .ok (.aload_n 0, 1) := by decide +kernel
theorem dX1_fillTable_7 : decode cX1_fillTable 7 = .ok (.aload_n 0, 1) := by decide +kernel
theorem dX1_fillTable_8 : decode cX1_fillTable 8 = .ok (.getfield 26, 3) := by decide +kernel
theorem dX1_fillTable_11 : decode cX1_fillTable 11 = .ok (.invokevirtual 83, 3) := by decide +kernel
theorem dX1_fillTable_14 : decode cX1_fillTable 14 = .ok (.aload_n 0, 1) := by decide +kernel
theorem dX1_fillTable_15 : decode cX1_fillTable 15 = .ok (.aload_n 0, 1) := by decide +kernel
theorem dX1_fillTable_16 : decode cX1_fillTable 16 = .ok (.getfield 26, 3) := by decide +kernel
theorem dX1_fillTable_19 : decode cX1_fillTable 19 = .ok (.invokevirtual 86, 3) := by decide +kernel
theorem dX1_fillTable_22 : decode cX1_fillTable 22 = .ok (.iconst 2, 1) := by decide +kernel
theorem dX1_fillTable_23 : decode cX1_fillTable 23 = .ok (.istore_n 2, 1) := by decide +kernel
theorem dX1_fillTable_24 : decode cX1_fillTable 24 = .ok (.iload_n 2, 1) := by decide +kernel
theorem dX1_fillTable_25 : decode cX1_fillTable 25 = .ok (.aload_n 0, 1) := by decide +kernel
theorem dX1_fillTable_26 : decode cX1_fillTable 26 = .ok (.getfield 33, 3) := by decide +kernel
theorem dX1_fillTable_29 : decode cX1_fillTable 29 = .ok (.getfield 89, 3) := by decide +kernel
theorem dX1_fillTable_32 : decode cX1_fillTable 32 = .ok (.iload_n 1, 1) := by decide +kernel
theorem dX1_fillTable_33 : decode cX1_fillTable 33 = .ok (.iaload, 1) := by decide +kernel
theorem dX1_fillTable_34 : decode cX1_fillTable 34 = .ok (.if_icmp .ge 22, 3) := by decide +kernel
theorem dX1_fillTable_37 : decode cX1_fillTable 37 = .ok (.aload_n 0, 1) := by decide +kernel
theorem dX1_fillTable_38 : decode cX1_fillTable 38 = .ok (.aload_n 0, 1) := by decide +kernel
theorem dX1_fillTable_39 : decode cX1_fillTable 39 = .ok (.getfield 33, 3) := by decide +kernel
theorem dX1_fillTable_42 : decode cX1_fillTable 42 = .ok (.iload_n 1, 1) := by decide +kernel
theorem dX1_fillTable_43 : decode cX1_fillTable 43 = .ok (.iload_n 2, 1) := by decide +kernel
theorem dX1_fillTable_44 : decode cX1_fillTable 44 = .ok (.invokevirtual 92, 3) := by decide +kernel
theorem dX1_fillTable_47 : decode cX1_fillTable 47 = .ok (.invokevirtual 96, 3) := by decide +kernel
theorem dX1_fillTable_50 : decode cX1_fillTable 50 = .ok (.iinc 2 1, 3) := by decide +kernel
theorem dX1_fillTable_53 : decode cX1_fillTable 53 = .ok (.goto (-29), 3) := by decide +kernel
theorem dX1_fillTable_56 : decode cX1_fillTable 56 = .ok (.aload_n 0, 1) := by decide +kernel
theorem dX1_fillTable_57 : decode cX1_fillTable 57 = .ok (.iload_n 1, 1) := by decide +kernel
theorem dX1_fillTable_58 : decode cX1_fillTable 58 = .ok (.invokevirtual 83, 3) := by decide +kernel
theorem dX1_fillTable_61 : decode cX1_fillTable 61 = .ok (.aload_n 0, 1) := by decide +kernel
theorem dX1_fillTable_62 : decode cX1_fillTable 62 = .ok (.iload_n 1, 1) := by decide +kernel
theorem dX1_fillTable_63 : decode cX1_fillTable 63 = .ok (.bipush 8, 2) := by decide +kernel
theorem dX1_fillTable_65 : decode cX1_fillTable 65 = .ok (.invokevirtual 99, 3) := by decide +kernel
theorem dX1_fillTable_68 : decode cX1_fillTable 68 = .ok (.return_, 1) := by decide +kernel
theorem dX1_readSign_0 : decode cX1_readSign 0 = .ok (.iload_n 1, 1) := by decide +kernel
theorem dX1_readSign_1 : decode cX1_readSign 1 = .ok (.invokestatic 102, 3) := by decide +kernel
theorem dX1_readSign_4 : decode cX1_readSign 4 = .ok (.ifCond .eq 14, 3) := by decide +kernel
theorem dX1_readSign_7 : decode cX1_readSign 7 = .ok (.aload_n 0, 1) := by decide +kernel
theorem dX1_readSign_8 : decode cX1_readSign 8 = .ok (.iload_n 1, 1) := by decide +kernel
theorem dX1_readSign_9 : decode cX1_readSign 9 = .ok (.bipush 97, 2) := by decide +kernel
theorem dX1_readSign_11 : decode cX1_readSign 11 = .ok (.isub, 1) := by decide +kernel
theorem dX1_readSign_12 : decode cX1_readSign 12 = .ok (.invokevirtual 106, 3) := by decide +kernel
theorem dX1_readSign_15 : decode cX1_readSign 15 = .ok (.goto 98, 3) := by decide +kernel
theorem dX1_readSign_18 : decode cX1_readSign 18 = .ok (.iload_n 1, 1) := by decide +kernel
theorem dX1_readSign_19 : decode cX1_readSign 19 = .ok (.invokestatic 109, 3) := by decide +kernel
theorem dX1_readSign_22 : decode cX1_readSign 22 = .ok (.ifCond .eq 18, 3) := by decide +kernel
theorem dX1_readSign_25 : decode cX1_readSign 25 = .ok (.aload_n 0, 1) := by decide +kernel
theorem dX1_readSign_26 : decode cX1_readSign 26 = .ok (.aload_n 0, 1) := by decide +kernel
theorem dX1_readSign_27 : decode cX1_readSign 27 = .ok (.getfield 26, 3) := by decide +kernel
theorem dX1_readSign_30 : decode cX1_readSign 30 = .ok (.iload_n 1, 1) := by decide +kernel
theorem dX1_readSign_31 : decode cX1_readSign 31 = .ok (.bipush 65, 2) := by decide +kernel
theorem dX1_readSign_33 : decode cX1_readSign 33 = .ok (.isub, 1) := by decide +kernel
theorem dX1_readSign_34 : decode cX1_readSign 34 = .ok (.invokevirtual 112, 3) := by decide +kernel
theorem dX1_readSign_37 : decode cX1_readSign 37 = .ok (.goto 76, 3) := by decide +kernel
theorem dX1_readSign_40 : decode cX1_readSign 40 = .ok (.iload_n 1, 1) := by decide +kernel
theorem dX1_readSign_41 : decode cX1_readSign 41 = .ok (.bipush 93, 2) := by decide +kernel
theorem dX1_readSign_43 : decode cX1_readSign 43 = .ok (.if_icmp .ne 18, 3) := by decide +kernel
theorem dX1_readSign_46 : decode cX1_readSign 46 = .ok (.aload_n 0, 1) := by decide +kernel
theorem dX1_readSign_47 : decode cX1_readSign 47 = .ok (.aload_n 0, 1) := by decide +kernel
theorem dX1_readSign_48 : decode cX1_readSign 48 = .ok (.getfield 26, 3) := by decide +kernel
theorem dX1_readSign_51 : decode cX1_readSign 51 = .ok (.invokevirtual 86, 3) := by decide +kernel
theorem dX1_readSign_54 : decode cX1_readSign 54 = .ok (.aload_n 0, 1) := by decide +kernel
theorem dX1_readSign_55 : decode cX1_readSign 55 = .ok (.invokevirtual 115, 3) := by decide +kernel
theorem dX1_readSign_58 : decode cX1_readSign 58 = .ok (.goto 55, 3) := by decide +kernel
theorem dX1_readSign_61 : decode cX1_readSign 61 = .ok (.iload_n 1, 1) := by decide +kernel
theorem dX1_readSign_62 : decode cX1_readSign 62 = .ok (.bipush 125, 2) := by decide +kernel
theorem dX1_readSign_64 : decode cX1_readSign 64 = .ok (.if_icmp .ne 14, 3) := by decide +kernel
theorem dX1_readSign_67 : decode cX1_readSign 67 = .ok (.aload_n 0, 1) := by decide +kernel
theorem dX1_readSign_68 : decode cX1_readSign 68 = .ok (.invokevirtual 118, 3) := by decide +kernel
theorem dX1_readSign_71 : decode cX1_readSign 71 = .ok (.aload_n 0, 1) := by decide +kernel
theorem dX1_readSign_72 : decode cX1_readSign 72 = .ok (.invokevirtual 115, 3) := by decide +kernel
theorem dX1_readSign_75 : decode cX1_readSign 75 = .ok (.goto 38, 3) := by decide +kernel
theorem dX1_readSign_78 : decode cX1_readSign 78 = .ok (.iload_n 1, 1) := by decide +kernel
theorem dX1_readSign_79 : decode cX1_readSign 79 = .ok (.bipush 41, 2) := by decide +kernel
theorem dX1_readSign_81 : decode cX1_readSign 81 = .ok (.if_icmp .ne 28, 3) := by decide +kernel
theorem dX1_readSign_84 : decode cX1_readSign 84 = .ok (.aload_n 0, 1) := by decide +kernel
theorem dX1_readSign_85 : decode cX1_readSign 85 = .ok (.aload_n 0, 1) := by decide +kernel
theorem dX1_readSign_86 : decode cX1_readSign 86 = .ok (.getfield 26, 3) := by decide +kernel
theorem dX1_readSign_89 : decode cX1_readSign 89 = .ok (.iconst 1, 1) := by decide +kernel
theorem dX1_readSign_90 : decode cX1_readSign 90 = .ok (.isub, 1) := by decide +kernel
theorem dX1_readSign_91 : decode cX1_readSign 91 = .ok (.aload_n 0, 1) := by decide +kernel
theorem dX1_readSign_92 : decode cX1_readSign 92 = .ok (.getfield 26, 3) := by decide +kernel
theorem dX1_readSign_95 : decode cX1_readSign 95 = .ok (.invokevirtual 99, 3) := by decide +kernel
theorem dX1_readSign_98 : decode cX1_readSign 98 = .ok (.aload_n 0, 1) := by decide +kernel
theorem dX1_readSign_99 : decode cX1_readSign 99 = .ok (.invokevirtual 121, 3) := by decide +kernel
theorem dX1_readSign_102 : decode cX1_readSign 102 = .ok (.aload_n 0, 1) := by decide +kernel
theorem dX1_readSign_103 : decode cX1_readSign 103 = .ok (.invokevirtual 115, 3) := by decide +kernel
theorem dX1_readSign_106 : decode cX1_readSign 106 = .ok (.goto 7, 3) := by decide +kernel
theorem dX1_readSign_109 : decode cX1_readSign 109 = .ok (.aload_n 0, 1) := by decide +kernel
theorem dX1_readSign_110 : decode cX1_readSign 110 = .ok (.invokevirtual 124, 3) := by decide +kernel
theorem dX1_readSign_113 : decode cX1_readSign 113 = .ok (.return_, 1) := by decide +kernel
theorem dX1_raise_0 : decode cX1_raise 0 = .ok (.aload_n 0, 1) := by decide +kernel
theorem dX1_raise_1 : decode cX1_raise 1 = .ok (.getfield 26, 3) := by decide +kernel
theorem dX1_raise_4 : decode cX1_raise 4 = .ok (.bipush 36, 2) := by decide +kernel
theorem dX1_raise_6 : decode cX1_raise 6 = .ok (.if_icmp .ge 13, 3) := by decide +kernel
theorem dX1_raise_9 : decode cX1_raise 9 = .ok (.aload_n 0, 1) := by decide +kernel
theorem dX1_raise_10 : decode cX1_raise 10 = .ok (.dup, 1) := by decide +kernel
theorem dX1_raise_11 : decode cX1_raise 11 = .ok (.getfield 26, 3) := by decide +kernel
theorem dX1_raise_14 : decode cX1_raise 14 = .ok (.iconst 1, 1) := by decide +kernel
theorem dX1_raise_15 : decode cX1_raise 15 = .ok (.iadd, 1) := by decide +kernel
theorem dX1_raise_16 : decode cX1_raise 16 = .ok (.putfield 26, 3) := by decide +kernel
theorem dX1_raise_19 : decode cX1_raise 19 = .ok (.aload_n 0, 1) := by decide +kernel
theorem dX1_raise_20 : decode cX1_raise 20 = .ok (.aload_n 0, 1) := by decide +kernel
theorem dX1_raise_21 : decode cX1_raise 21 = .ok (.getfield 26, 3) := by decide +kernel
theorem dX1_raise_24 : decode cX1_raise 24 = .ok (.invokevirtual 83, 3) := by decide +kernel
theorem dX1_raise_27 : decode cX1_raise 27 = .ok (.aload_n 0, 1) := by decide +kernel
theorem dX1_raise_28 : decode cX1_raise 28 = .ok (.aload_n 0, 1) := by decide +kernel
theorem dX1_raise_29 : decode cX1_raise 29 = .ok (.getfield 26, 3) := by decide +kernel
theorem dX1_raise_32 : decode cX1_raise 32 = .ok (.invokevirtual 86, 3) := by decide +kernel
theorem dX1_raise_35 : decode cX1_raise 35 = .ok (.return_, 1) := by decide +kernel
theorem dX1_lower_0 : decode cX1_lower 0 = .ok (.aload_n 0, 1) := by decide +kernel
theorem dX1_lower_1 : decode cX1_lower 1 = .ok (.getfield 26, 3) := by decide +kernel
theorem dX1_lower_4 : decode cX1_lower 4 = .ok (.bipush 8, 2) := by decide +kernel
theorem dX1_lower_6 : decode cX1_lower 6 = .ok (.if_icmp .le 13, 3) := by decide +kernel
theorem dX1_lower_9 : decode cX1_lower 9 = .ok (.aload_n 0, 1) := by decide +kernel
theorem dX1_lower_10 : decode cX1_lower 10 = .ok (.dup, 1) := by decide +kernel
theorem dX1_lower_11 : decode cX1_lower 11 = .ok (.getfield 26, 3) := by decide +kernel
theorem dX1_lower_14 : decode cX1_lower 14 = .ok (.iconst 1, 1) := by decide +kernel
theorem dX1_lower_15 : decode cX1_lower 15 = .ok (.isub, 1) := by decide +kernel
theorem dX1_lower_16 : decode cX1_lower 16 = .ok (.putfield 26, 3) := by decide +kernel
theorem dX1_lower_19 : decode cX1_lower 19 = .ok (.return_, 1) := by decide +kernel
theorem dX1_close_0 : decode cX1_close 0 = .ok (.aload_n 0, 1) := by decide +kernel
theorem dX1_close_1 : decode cX1_close 1 = .ok (.getfield 26, 3) := by decide +kernel
theorem dX1_close_4 : decode cX1_close 4 = .ok (.istore_n 1, 1) := by decide +kernel
theorem dX1_close_5 : decode cX1_close 5 = .ok (.aload_n 0, 1) := by decide +kernel
theorem dX1_close_6 : decode cX1_close 6 = .ok (.invokevirtual 121, 3) := by decide +kernel
theorem dX1_close_9 : decode cX1_close 9 = .ok (.aload_n 0, 1) := by decide +kernel
theorem dX1_close_10 : decode cX1_close 10 = .ok (.aload_n 0, 1) := by decide +kernel
theorem dX1_close_11 : decode cX1_close 11 = .ok (.getfield 26, 3) := by decide +kernel
theorem dX1_close_14 : decode cX1_close 14 = .ok (.iload_n 1, 1) := by decide +kernel
theorem dX1_close_15 : decode cX1_close 15 = .ok (.invokevirtual 112, 3) := by decide +kernel
theorem dX1_close_18 : decode cX1_close 18 = .ok (.return_, 1) := by decide +kernel
theorem dX1_repeat_0 : decode cX1_repeat 0 = .ok (.aload_n 0, 1) := by decide +kernel
theorem dX1_repeat_1 : decode cX1_repeat 1 = .ok (.getfield 26, 3) := by decide +kernel
theorem dX1_repeat_4 : decode cX1_repeat 4 = .ok (.iconst 1, 1) := by decide +kernel
theorem dX1_repeat_5 : decode cX1_repeat 5 = .ok (.iadd, 1) := by decide +kernel
theorem dX1_repeat_6 : decode cX1_repeat 6 = .ok (.istore_n 1, 1) := by decide +kernel
theorem dX1_repeat_7 : decode cX1_repeat 7 = .ok (.aload_n 0, 1) := by decide +kernel
theorem dX1_repeat_8 : decode cX1_repeat 8 = .ok (.iload_n 1, 1) := by decide +kernel
theorem dX1_repeat_9 : decode cX1_repeat 9 = .ok (.invokevirtual 83, 3) := by decide +kernel
theorem dX1_repeat_12 : decode cX1_repeat 12 = .ok (.aload_n 0, 1) := by decide +kernel
theorem dX1_repeat_13 : decode cX1_repeat 13 = .ok (.iload_n 1, 1) := by decide +kernel
theorem dX1_repeat_14 : decode cX1_repeat 14 = .ok (.invokevirtual 86, 3) := by decide +kernel
theorem dX1_repeat_17 : decode cX1_repeat 17 = .ok (.iconst 0, 1) := by decide +kernel
theorem dX1_repeat_18 : decode cX1_repeat 18 = .ok (.istore_n 2, 1) := by decide +kernel
theorem dX1_repeat_19 : decode cX1_repeat 19 = .ok (.iload_n 2, 1) := by decide +kernel
theorem dX1_repeat_20 : decode cX1_repeat 20 = .ok (.aload_n 0, 1) := by decide +kernel
theorem dX1_repeat_21 : decode cX1_repeat 21 = .ok (.getfield 33, 3) := by decide +kernel
theorem dX1_repeat_24 : decode cX1_repeat 24 = .ok (.getfield 127, 3) := by decide +kernel
theorem dX1_repeat_27 : decode cX1_repeat 27 = .ok (.if_icmp .ge 23, 3) := by decide +kernel
theorem dX1_repeat_30 : decode cX1_repeat 30 = .ok (.aload_n 0, 1) := by decide +kernel
theorem dX1_repeat_31 : decode cX1_repeat 31 = .ok (.iload_n 1, 1) := by decide +kernel
theorem dX1_repeat_32 : decode cX1_repeat 32 = .ok (.aload_n 0, 1) := by decide +kernel
theorem dX1_repeat_33 : decode cX1_repeat 33 = .ok (.getfield 26, 3) := by decide +kernel
theorem dX1_repeat_36 : decode cX1_repeat 36 = .ok (.invokevirtual 112, 3) := by decide +kernel
theorem dX1_repeat_39 : decode cX1_repeat 39 = .ok (.aload_n 0, 1) := by decide +kernel
theorem dX1_repeat_40 : decode cX1_repeat 40 = .ok (.iload_n 1, 1) := by decide +kernel
theorem dX1_repeat_41 : decode cX1_repeat 41 = .ok (.invokevirtual 86, 3) := by decide +kernel
theorem dX1_repeat_44 : decode cX1_repeat 44 = .ok (.iinc 2 1, 3) := by decide +kernel
theorem dX1_repeat_47 : decode cX1_repeat 47 = .ok (.goto (-28), 3) := by decide +kernel
theorem dX1_repeat_50 : decode cX1_repeat 50 = .ok (.aload_n 0, 1) := by decide +kernel
theorem dX1_repeat_51 : decode cX1_repeat 51 = .ok (.aload_n 0, 1) := by decide +kernel
theorem dX1_repeat_52 : decode cX1_repeat 52 = .ok (.getfield 26, 3) := by decide +kernel
theorem dX1_repeat_55 : decode cX1_repeat 55 = .ok (.invokevirtual 83, 3) := by decide +kernel
theorem dX1_repeat_58 : decode cX1_repeat 58 = .ok (.aload_n 0, 1) := by decide +kernel
theorem dX1_repeat_59 : decode cX1_repeat 59 = .ok (.aload_n 0, 1) := by decide +kernel
theorem dX1_repeat_60 : decode cX1_repeat 60 = .ok (.getfield 26, 3) := by decide +kernel
theorem dX1_repeat_63 : decode cX1_repeat 63 = .ok (.iload_n 1, 1) := by decide +kernel
theorem dX1_repeat_64 : decode cX1_repeat 64 = .ok (.invokevirtual 99, 3) := by decide +kernel
theorem dX1_repeat_67 : decode cX1_repeat 67 = .ok (.return_, 1) := by decide +kernel
theorem dX1_cell_0 : decode cX1_cell 0 = .ok (.iload_n 1, 1) := by decide +kernel
theorem dX1_cell_1 : decode cX1_cell 1 = .ok (.sipush 325, 3) := by decide +kernel
theorem dX1_cell_4 : decode cX1_cell 4 = .ok (.imul, 1) := by decide +kernel
theorem dX1_cell_5 : decode cX1_cell 5 = .ok (.iload_n 2, 1) := by decide +kernel
theorem dX1_cell_6 : decode cX1_cell 6 = .ok (.iconst 2, 1) := by decide +kernel
theorem dX1_cell_7 : decode cX1_cell 7 = .ok (.aload_n 0, 1) := by decide +kernel
theorem dX1_cell_8 : decode cX1_cell 8 = .ok (.getfield 22, 3) := by decide +kernel
theorem dX1_cell_11 : decode cX1_cell 11 = .ok (.imul, 1) := by decide +kernel
theorem dX1_cell_12 : decode cX1_cell 12 = .ok (.iconst 3, 1) := by decide +kernel
theorem dX1_cell_13 : decode cX1_cell 13 = .ok (.iadd, 1) := by decide +kernel
theorem dX1_cell_14 : decode cX1_cell 14 = .ok (.iload_n 2, 1) := by decide +kernel
theorem dX1_cell_15 : decode cX1_cell 15 = .ok (.isub, 1) := by decide +kernel
theorem dX1_cell_16 : decode cX1_cell 16 = .ok (.imul, 1) := by decide +kernel
theorem dX1_cell_17 : decode cX1_cell 17 = .ok (.iconst 2, 1) := by decide +kernel
theorem dX1_cell_18 : decode cX1_cell 18 = .ok (.idiv, 1) := by decide +kernel
theorem dX1_cell_19 : decode cX1_cell 19 = .ok (.iadd, 1) := by decide +kernel
theorem dX1_cell_20 : decode cX1_cell 20 = .ok (.iload_n 3, 1) := by decide +kernel
theorem dX1_cell_21 : decode cX1_cell 21 = .ok (.iadd, 1) := by decide +kernel
theorem dX1_cell_22 : decode cX1_cell 22 = .ok (.iload_n 2, 1) := by decide +kernel
theorem dX1_cell_23 : decode cX1_cell 23 = .ok (.isub, 1) := by decide +kernel
theorem dX1_cell_24 : decode cX1_cell 24 = .ok (.ireturn, 1) := by decide +kernel
theorem dX1_cellsInUse_0 : decode cX1_cellsInUse 0 = .ok (.aload_n 0, 1) := by decide +kernel
theorem dX1_cellsInUse_1 : decode cX1_cellsInUse 1 = .ok (.getfield 22, 3) := by decide +kernel
theorem dX1_cellsInUse_4 : decode cX1_cellsInUse 4 = .ok (.iconst 1, 1) := by decide +kernel
theorem dX1_cellsInUse_5 : decode cX1_cellsInUse 5 = .ok (.iadd, 1) := by decide +kernel
theorem dX1_cellsInUse_6 : decode cX1_cellsInUse 6 = .ok (.aload_n 0, 1) := by decide +kernel
theorem dX1_cellsInUse_7 : decode cX1_cellsInUse 7 = .ok (.getfield 22, 3) := by decide +kernel
theorem dX1_cellsInUse_10 : decode cX1_cellsInUse 10 = .ok (.iconst 2, 1) := by decide +kernel
theorem dX1_cellsInUse_11 : decode cX1_cellsInUse 11 = .ok (.iadd, 1) := by decide +kernel
theorem dX1_cellsInUse_12 : decode cX1_cellsInUse 12 = .ok (.imul, 1) := by decide +kernel
theorem dX1_cellsInUse_13 : decode cX1_cellsInUse 13 = .ok (.iconst 2, 1) := by decide +kernel
theorem dX1_cellsInUse_14 : decode cX1_cellsInUse 14 = .ok (.idiv, 1) := by decide +kernel
theorem dX1_cellsInUse_15 : decode cX1_cellsInUse 15 = .ok (.ireturn, 1) := by decide +kernel
theorem dX1_clear_0 : decode cX1_clear 0 = .ok (.aload_n 0, 1) := by decide +kernel
theorem dX1_clear_1 : decode cX1_clear 1 = .ok (.invokevirtual 130, 3) := by decide +kernel
theorem dX1_clear_4 : decode cX1_clear 4 = .ok (.istore_n 2, 1) := by decide +kernel
theorem dX1_clear_5 : decode cX1_clear 5 = .ok (.iconst 0, 1) := by decide +kernel
theorem dX1_clear_6 : decode cX1_clear 6 = .ok (.istore_n 3, 1) := by decide +kernel
theorem dX1_clear_7 : decode cX1_clear 7 = .ok (.iload_n 3, 1) := by decide +kernel
theorem dX1_clear_8 : decode cX1_clear 8 = .ok (.iload_n 2, 1) := by decide +kernel
theorem dX1_clear_9 : decode cX1_clear 9 = .ok (.if_icmp .ge 22, 3) := by decide +kernel
theorem dX1_clear_12 : decode cX1_clear 12 = .ok (.aload_n 0, 1) := by decide +kernel
theorem dX1_clear_13 : decode cX1_clear 13 = .ok (.getfield 11, 3) := by decide +kernel
theorem dX1_clear_16 : decode cX1_clear 16 = .ok (.iload_n 1, 1) := by decide +kernel
theorem dX1_clear_17 : decode cX1_clear 17 = .ok (.sipush 325, 3) := by decide +kernel
theorem dX1_clear_20 : decode cX1_clear 20 = .ok (.imul, 1) := by decide +kernel
theorem dX1_clear_21 : decode cX1_clear 21 = .ok (.iload_n 3, 1) := by decide +kernel
theorem dX1_clear_22 : decode cX1_clear 22 = .ok (.iadd, 1) := by decide +kernel
theorem dX1_clear_23 : decode cX1_clear 23 = .ok (.iconst 0, 1) := by decide +kernel
theorem dX1_clear_24 : decode cX1_clear 24 = .ok (.iastore, 1) := by decide +kernel
theorem dX1_clear_25 : decode cX1_clear 25 = .ok (.iinc 3 1, 3) := by decide +kernel
theorem dX1_clear_28 : decode cX1_clear 28 = .ok (.goto (-21), 3) := by decide +kernel
theorem dX1_clear_31 : decode cX1_clear 31 = .ok (.return_, 1) := by decide +kernel
theorem dX1_addOne_0 : decode cX1_addOne 0 = .ok (.iconst 0, 1) := by decide +kernel
theorem dX1_addOne_1 : decode cX1_addOne 1 = .ok (.istore_n 2, 1) := by decide +kernel
theorem dX1_addOne_2 : decode cX1_addOne 2 = .ok (.iload_n 2, 1) := by decide +kernel
theorem dX1_addOne_3 : decode cX1_addOne 3 = .ok (.aload_n 0, 1) := by decide +kernel
theorem dX1_addOne_4 : decode cX1_addOne 4 = .ok (.getfield 22, 3) := by decide +kernel
theorem dX1_addOne_7 : decode cX1_addOne 7 = .ok (.if_icmp .gt 36, 3) := by decide +kernel
theorem dX1_addOne_10 : decode cX1_addOne 10 = .ok (.aload_n 0, 1) := by decide +kernel
theorem dX1_addOne_11 : decode cX1_addOne 11 = .ok (.iload_n 1, 1) := by decide +kernel
theorem dX1_addOne_12 : decode cX1_addOne 12 = .ok (.iload_n 2, 1) := by decide +kernel
theorem dX1_addOne_13 : decode cX1_addOne 13 = .ok (.iload_n 2, 1) := by decide +kernel
theorem dX1_addOne_14 : decode cX1_addOne 14 = .ok (.invokevirtual 69, 3) := by decide +kernel
theorem dX1_addOne_17 : decode cX1_addOne 17 = .ok (.istore_n 3, 1) := by decide +kernel
theorem dX1_addOne_18 : decode cX1_addOne 18 = .ok (.aload_n 0, 1) := by decide +kernel
theorem dX1_addOne_19 : decode cX1_addOne 19 = .ok (.getfield 11, 3) := by decide +kernel
theorem dX1_addOne_22 : decode cX1_addOne 22 = .ok (.iload_n 3, 1) := by decide +kernel
theorem dX1_addOne_23 : decode cX1_addOne 23 = .ok (.aload_n 0, 1) := by decide +kernel
theorem dX1_addOne_24 : decode cX1_addOne 24 = .ok (.getfield 11, 3) := by decide +kernel
theorem dX1_addOne_27 : decode cX1_addOne 27 = .ok (.iload_n 3, 1) := by decide +kernel
theorem dX1_addOne_28 : decode cX1_addOne 28 = .ok (.iaload, 1) := by decide +kernel
theorem dX1_addOne_29 : decode cX1_addOne 29 = .ok (.iconst 1, 1) := by decide +kernel
theorem dX1_addOne_30 : decode cX1_addOne 30 = .ok (.iadd, 1) := by decide +kernel
theorem dX1_addOne_31 : decode cX1_addOne 31 = .ok (.ldc 134, 2) := by decide +kernel
theorem dX1_addOne_33 : decode cX1_addOne 33 = .ok (.invokestatic 135, 3) := by decide +kernel
theorem dX1_addOne_36 : decode cX1_addOne 36 = .ok (.iastore, 1) := by decide +kernel
theorem dX1_addOne_37 : decode cX1_addOne 37 = .ok (.iinc 2 1, 3) := by decide +kernel
theorem dX1_addOne_40 : decode cX1_addOne 40 = .ok (.goto (-38), 3) := by decide +kernel
theorem dX1_addOne_43 : decode cX1_addOne 43 = .ok (.return_, 1) := by decide +kernel
theorem dX1_addTable_0 : decode cX1_addTable 0 = .ok (.aload_n 0, 1) := by decide +kernel
theorem dX1_addTable_1 : decode cX1_addTable 1 = .ok (.invokevirtual 130, 3) := by decide +kernel
theorem dX1_addTable_4 : decode cX1_addTable 4 = .ok (.istore_n 3, 1) := by decide +kernel
theorem dX1_addTable_5 : decode cX1_addTable 5 = .ok (.iconst 0, 1) := by decide +kernel
theorem dX1_addTable_6 : decode cX1_addTable 6 = .ok (.istore 4, 2) := by decide +kernel
theorem dX1_addTable_8 : decode cX1_addTable 8 = .ok (.iload 4, 2) := by decide +kernel
theorem dX1_addTable_10 : decode cX1_addTable 10 = .ok (.iload_n 3, 1) := by decide +kernel
theorem dX1_addTable_11 : decode cX1_addTable 11 = .ok (.if_icmp .ge 58, 3) := by decide +kernel
theorem dX1_addTable_14 : decode cX1_addTable 14 = .ok (.aload_n 0, 1) := by decide +kernel
theorem dX1_addTable_15 : decode cX1_addTable 15 = .ok (.getfield 11, 3) := by decide +kernel
theorem dX1_addTable_18 : decode cX1_addTable 18 = .ok (.iload_n 1, 1) := by decide +kernel
theorem dX1_addTable_19 : decode cX1_addTable 19 = .ok (.sipush 325, 3) := by decide +kernel
theorem dX1_addTable_22 : decode cX1_addTable 22 = .ok (.imul, 1) := by decide +kernel
theorem dX1_addTable_23 : decode cX1_addTable 23 = .ok (.iload 4, 2) := by decide +kernel
theorem dX1_addTable_25 : decode cX1_addTable 25 = .ok (.iadd, 1) := by decide +kernel
theorem dX1_addTable_26 : decode cX1_addTable 26 = .ok (.iaload, 1) := by decide +kernel
theorem dX1_addTable_27 : decode cX1_addTable 27 = .ok (.aload_n 0, 1) := by decide +kernel
theorem dX1_addTable_28 : decode cX1_addTable 28 = .ok (.getfield 11, 3) := by decide +kernel
theorem dX1_addTable_31 : decode cX1_addTable 31 = .ok (.iload_n 2, 1) := by decide +kernel
theorem dX1_addTable_32 : decode cX1_addTable 32 = .ok (.sipush 325, 3) := by decide +kernel
theorem dX1_addTable_35 : decode cX1_addTable 35 = .ok (.imul, 1) := by decide +kernel
theorem dX1_addTable_36 : decode cX1_addTable 36 = .ok (.iload 4, 2) := by decide +kernel
theorem dX1_addTable_38 : decode cX1_addTable 38 = .ok (.iadd, 1) := by decide +kernel
theorem dX1_addTable_39 : decode cX1_addTable 39 = .ok (.iaload, 1) := by decide +kernel
theorem dX1_addTable_40 : decode cX1_addTable 40 = .ok (.iadd, 1) := by decide +kernel
theorem dX1_addTable_41 : decode cX1_addTable 41 = .ok (.istore 5, 2) := by decide +kernel
theorem dX1_addTable_43 : decode cX1_addTable 43 = .ok (.aload_n 0, 1) := by decide +kernel
theorem dX1_addTable_44 : decode cX1_addTable 44 = .ok (.getfield 11, 3) := by decide +kernel
theorem dX1_addTable_47 : decode cX1_addTable 47 = .ok (.iload_n 1, 1) := by decide +kernel
theorem dX1_addTable_48 : decode cX1_addTable 48 = .ok (.sipush 325, 3) := by decide +kernel
theorem dX1_addTable_51 : decode cX1_addTable 51 = .ok (.imul, 1) := by decide +kernel
theorem dX1_addTable_52 : decode cX1_addTable 52 = .ok (.iload 4, 2) := by decide +kernel
theorem dX1_addTable_54 : decode cX1_addTable 54 = .ok (.iadd, 1) := by decide +kernel
theorem dX1_addTable_55 : decode cX1_addTable 55 = .ok (.iload 5, 2) := by decide +kernel
theorem dX1_addTable_57 : decode cX1_addTable 57 = .ok (.ldc 134, 2) := by decide +kernel
theorem dX1_addTable_59 : decode cX1_addTable 59 = .ok (.invokestatic 135, 3) := by decide +kernel
theorem dX1_addTable_62 : decode cX1_addTable 62 = .ok (.iastore, 1) := by decide +kernel
theorem dX1_addTable_63 : decode cX1_addTable 63 = .ok (.iinc 4 1, 3) := by decide +kernel
theorem dX1_addTable_66 : decode cX1_addTable 66 = .ok (.goto (-58), 3) := by decide +kernel
theorem dX1_addTable_69 : decode cX1_addTable 69 = .ok (.return_, 1) := by decide +kernel
theorem dX1_followBySlot_0 : decode cX1_followBySlot 0 = .ok (.iconst 0, 1) := by decide +kernel
theorem dX1_followBySlot_1 : decode cX1_followBySlot 1 = .ok (.istore_n 2, 1) := by decide +kernel
theorem dX1_followBySlot_2 : decode cX1_followBySlot 2 = .ok (.iload_n 2, 1) := by decide +kernel
theorem dX1_followBySlot_3 : decode cX1_followBySlot 3 = .ok (.aload_n 0, 1) := by decide +kernel
theorem dX1_followBySlot_4 : decode cX1_followBySlot 4 = .ok (.getfield 22, 3) := by decide +kernel
theorem dX1_followBySlot_7 : decode cX1_followBySlot 7 = .ok (.if_icmp .gt 100, 3) := by decide +kernel
theorem dX1_followBySlot_10 : decode cX1_followBySlot 10 = .ok (.aload_n 0, 1) := by decide +kernel
theorem dX1_followBySlot_11 : decode cX1_followBySlot 11 = .ok (.getfield 22, 3) := by decide +kernel
theorem dX1_followBySlot_14 : decode cX1_followBySlot 14 = .ok (.istore_n 3, 1) := by decide +kernel
theorem dX1_followBySlot_15 : decode cX1_followBySlot 15 = .ok (.iload_n 3, 1) := by decide +kernel
theorem dX1_followBySlot_16 : decode cX1_followBySlot 16 = .ok (.iload_n 2, 1) := by decide +kernel
theorem dX1_followBySlot_17 : decode cX1_followBySlot 17 = .ok (.if_icmp .le 68, 3) := by decide +kernel
theorem dX1_followBySlot_20 : decode cX1_followBySlot 20 = .ok (.aload_n 0, 1) := by decide +kernel
theorem dX1_followBySlot_21 : decode cX1_followBySlot 21 = .ok (.getfield 11, 3) := by decide +kernel
theorem dX1_followBySlot_24 : decode cX1_followBySlot 24 = .ok (.aload_n 0, 1) := by decide +kernel
theorem dX1_followBySlot_25 : decode cX1_followBySlot 25 = .ok (.aload_n 0, 1) := by decide +kernel
theorem dX1_followBySlot_26 : decode cX1_followBySlot 26 = .ok (.getfield 26, 3) := by decide +kernel
theorem dX1_followBySlot_29 : decode cX1_followBySlot 29 = .ok (.iload_n 2, 1) := by decide +kernel
theorem dX1_followBySlot_30 : decode cX1_followBySlot 30 = .ok (.iload_n 3, 1) := by decide +kernel
theorem dX1_followBySlot_31 : decode cX1_followBySlot 31 = .ok (.iconst 1, 1) := by decide +kernel
theorem dX1_followBySlot_32 : decode cX1_followBySlot 32 = .ok (.isub, 1) := by decide +kernel
theorem dX1_followBySlot_33 : decode cX1_followBySlot 33 = .ok (.invokevirtual 69, 3) := by decide +kernel
theorem dX1_followBySlot_36 : decode cX1_followBySlot 36 = .ok (.iaload, 1) := by decide +kernel
theorem dX1_followBySlot_37 : decode cX1_followBySlot 37 = .ok (.i2l, 1) := by decide +kernel
theorem dX1_followBySlot_38 : decode cX1_followBySlot 38 = .ok (.aload_n 0, 1) := by decide +kernel
theorem dX1_followBySlot_39 : decode cX1_followBySlot 39 = .ok (.getfield 15, 3) := by decide +kernel
theorem dX1_followBySlot_42 : decode cX1_followBySlot 42 = .ok (.iload_n 3, 1) := by decide +kernel
theorem dX1_followBySlot_43 : decode cX1_followBySlot 43 = .ok (.iconst 1, 1) := by decide +kernel
theorem dX1_followBySlot_44 : decode cX1_followBySlot 44 = .ok (.isub, 1) := by decide +kernel
theorem dX1_followBySlot_45 : decode cX1_followBySlot 45 = .ok (.bipush 8, 2) := by decide +kernel
theorem dX1_followBySlot_47 : decode cX1_followBySlot 47 = .ok (.imul, 1) := by decide +kernel
theorem dX1_followBySlot_48 : decode cX1_followBySlot 48 = .ok (.iload_n 1, 1) := by decide +kernel
theorem dX1_followBySlot_49 : decode cX1_followBySlot 49 = .ok (.iadd, 1) := by decide +kernel
theorem dX1_followBySlot_50 : decode cX1_followBySlot 50 = .ok (.iaload, 1) := by decide +kernel
theorem dX1_followBySlot_51 : decode cX1_followBySlot 51 = .ok (.i2l, 1) := by decide +kernel
theorem dX1_followBySlot_52 : decode cX1_followBySlot 52 = .ok (.lmul, 1) := by decide +kernel
theorem dX1_followBySlot_53 : decode cX1_followBySlot 53 = .ok (.lstore 4, 2) := by decide +kernel
theorem dX1_followBySlot_55 : decode cX1_followBySlot 55 = .ok (.aload_n 0, 1) := by decide +kernel
theorem dX1_followBySlot_56 : decode cX1_followBySlot 56 = .ok (.getfield 11, 3) := by decide +kernel
theorem dX1_followBySlot_59 : decode cX1_followBySlot 59 = .ok (.aload_n 0, 1) := by decide +kernel
theorem dX1_followBySlot_60 : decode cX1_followBySlot 60 = .ok (.aload_n 0, 1) := by decide +kernel
theorem dX1_followBySlot_61 : decode cX1_followBySlot 61 = .ok (.getfield 26, 3) := by decide +kernel
theorem dX1_followBySlot_64 : decode cX1_followBySlot 64 = .ok (.iload_n 2, 1) := by decide +kernel
theorem dX1_followBySlot_65 : decode cX1_followBySlot 65 = .ok (.iload_n 3, 1) := by decide +kernel
theorem dX1_followBySlot_66 : decode cX1_followBySlot 66 = .ok (.invokevirtual 69, 3) := by decide +kernel
theorem dX1_followBySlot_69 : decode cX1_followBySlot 69 = .ok (.lload 4, 2) := by decide +kernel
theorem dX1_followBySlot_71 : decode cX1_followBySlot 71 = .ok (.ldc2_w 140, 3) := by decide +kernel
theorem dX1_followBySlot_74 : decode cX1_followBySlot 74 = .ok (.invokestatic 142, 3) := by decide +kernel
theorem dX1_followBySlot_77 : decode cX1_followBySlot 77 = .ok (.l2i, 1) := by decide +kernel
theorem dX1_followBySlot_78 : decode cX1_followBySlot 78 = .ok (.iastore, 1) := by decide +kernel
theorem dX1_followBySlot_79 : decode cX1_followBySlot 79 = .ok (.iinc 3 (-1), 3) := by decide +kernel
theorem dX1_followBySlot_82 : decode cX1_followBySlot 82 = .ok (.goto (-67), 3) := by decide +kernel
theorem dX1_followBySlot_85 : decode cX1_followBySlot 85 = .ok (.aload_n 0, 1) := by decide +kernel
theorem dX1_followBySlot_86 : decode cX1_followBySlot 86 = .ok (.getfield 11, 3) := by decide +kernel
theorem dX1_followBySlot_89 : decode cX1_followBySlot 89 = .ok (.aload_n 0, 1) := by decide +kernel
theorem dX1_followBySlot_90 : decode cX1_followBySlot 90 = .ok (.aload_n 0, 1) := by decide +kernel
theorem dX1_followBySlot_91 : decode cX1_followBySlot 91 = .ok (.getfield 26, 3) := by decide +kernel
theorem dX1_followBySlot_94 : decode cX1_followBySlot 94 = .ok (.iload_n 2, 1) := by decide +kernel
theorem dX1_followBySlot_95 : decode cX1_followBySlot 95 = .ok (.iload_n 2, 1) := by decide +kernel
theorem dX1_followBySlot_96 : decode cX1_followBySlot 96 = .ok (.invokevirtual 69, 3) := by decide +kernel
theorem dX1_followBySlot_99 : decode cX1_followBySlot 99 = .ok (.iconst 0, 1) := by decide +kernel
theorem dX1_followBySlot_100 : decode cX1_followBySlot 100 = .ok (.iastore, 1) := by decide +kernel
theorem dX1_followBySlot_101 : decode cX1_followBySlot 101 = .ok (.iinc 2 1, 3) := by decide +kernel
theorem dX1_followBySlot_104 : decode cX1_followBySlot 104 = .ok (.goto (-102), 3) := by decide +kernel
theorem dX1_followBySlot_107 : decode cX1_followBySlot 107 = .ok (.return_, 1) := by decide +kernel
theorem dX1_multiply_0 : decode cX1_multiply 0 = .ok (.iconst 0, 1) := by decide +kernel
theorem dX1_multiply_1 : decode cX1_multiply 1 = .ok (.istore_n 3, 1) := by decide +kernel
theorem dX1_multiply_2 : decode cX1_multiply 2 = .ok (.iload_n 3, 1) := by decide +kernel
theorem dX1_multiply_3 : decode cX1_multiply 3 = .ok (.aload_n 0, 1) := by decide +kernel
theorem dX1_multiply_4 : decode cX1_multiply 4 = .ok (.getfield 22, 3) := by decide +kernel
theorem dX1_multiply_7 : decode cX1_multiply 7 = .ok (.if_icmp .gt 149, 3) := by decide +kernel
theorem dX1_multiply_10 : decode cX1_multiply 10 = .ok (.aload_n 0, 1) := by decide +kernel
theorem dX1_multiply_11 : decode cX1_multiply 11 = .ok (.getfield 22, 3) := by decide +kernel
theorem dX1_multiply_14 : decode cX1_multiply 14 = .ok (.istore 4, 2) := by decide +kernel
theorem dX1_multiply_16 : decode cX1_multiply 16 = .ok (.iload 4, 2) := by decide +kernel
theorem dX1_multiply_18 : decode cX1_multiply 18 = .ok (.iload_n 3, 1) := by decide +kernel
theorem dX1_multiply_19 : decode cX1_multiply 19 = .ok (.if_icmp .lt 131, 3) := by decide +kernel
theorem dX1_multiply_22 : decode cX1_multiply 22 = .ok (.aload_n 0, 1) := by decide +kernel
theorem dX1_multiply_23 : decode cX1_multiply 23 = .ok (.iload_n 1, 1) := by decide +kernel
theorem dX1_multiply_24 : decode cX1_multiply 24 = .ok (.iload_n 3, 1) := by decide +kernel
theorem dX1_multiply_25 : decode cX1_multiply 25 = .ok (.iload 4, 2) := by decide +kernel
theorem dX1_multiply_27 : decode cX1_multiply 27 = .ok (.invokevirtual 69, 3) := by decide +kernel
theorem dX1_multiply_30 : decode cX1_multiply 30 = .ok (.istore 5, 2) := by decide +kernel
theorem dX1_multiply_32 : decode cX1_multiply 32 = .ok (.aload_n 0, 1) := by decide +kernel
theorem dX1_multiply_33 : decode cX1_multiply 33 = .ok (.iload_n 2, 1) := by decide +kernel
theorem dX1_multiply_34 : decode cX1_multiply 34 = .ok (.iload 4, 2) := by decide +kernel
theorem dX1_multiply_36 : decode cX1_multiply 36 = .ok (.iload 4, 2) := by decide +kernel
theorem dX1_multiply_38 : decode cX1_multiply 38 = .ok (.invokevirtual 69, 3) := by decide +kernel
theorem dX1_multiply_41 : decode cX1_multiply 41 = .ok (.istore 6, 2) := by decide +kernel
theorem dX1_multiply_43 : decode cX1_multiply 43 = .ok (.aload_n 0, 1) := by decide +kernel
theorem dX1_multiply_44 : decode cX1_multiply 44 = .ok (.getfield 11, 3) := by decide +kernel
theorem dX1_multiply_47 : decode cX1_multiply 47 = .ok (.iload 5, 2) := by decide +kernel
theorem dX1_multiply_49 : decode cX1_multiply 49 = .ok (.iaload, 1) := by decide +kernel
theorem dX1_multiply_50 : decode cX1_multiply 50 = .ok (.istore 7, 2) := by decide +kernel
theorem dX1_multiply_52 : decode cX1_multiply 52 = .ok (.aload_n 0, 1) := by decide +kernel
theorem dX1_multiply_53 : decode cX1_multiply 53 = .ok (.getfield 11, 3) := by decide +kernel
theorem dX1_multiply_56 : decode cX1_multiply 56 = .ok (.iload 5, 2) := by decide +kernel
theorem dX1_multiply_58 : decode cX1_multiply 58 = .ok (.iconst 0, 1) := by decide +kernel
theorem dX1_multiply_59 : decode cX1_multiply 59 = .ok (.iastore, 1) := by decide +kernel
theorem dX1_multiply_60 : decode cX1_multiply 60 = .ok (.iload 7, 2) := by decide +kernel
theorem dX1_multiply_62 : decode cX1_multiply 62 = .ok (.ifCond .ne 7, 3) := by decide +kernel
theorem dX1_multiply_65 : decode cX1_multiply 65 = .ok (.iconst 0, 1) := by decide +kernel
theorem dX1_multiply_66 : decode cX1_multiply 66 = .ok (.goto 12, 3) := by decide +kernel
theorem dX1_multiply_69 : decode cX1_multiply 69 = .ok (.aload_n 0, 1) := by decide +kernel
theorem dX1_multiply_70 : decode cX1_multiply 70 = .ok (.getfield 22, 3) := by decide +kernel
theorem dX1_multiply_73 : decode cX1_multiply 73 = .ok (.iload 4, 2) := by decide +kernel
theorem dX1_multiply_75 : decode cX1_multiply 75 = .ok (.isub, 1) := by decide +kernel
theorem dX1_multiply_76 : decode cX1_multiply 76 = .ok (.iconst 1, 1) := by decide +kernel
theorem dX1_multiply_77 : decode cX1_multiply 77 = .ok (.iadd, 1) := by decide +kernel
theorem dX1_multiply_78 : decode cX1_multiply 78 = .ok (.istore 8, 2) := by decide +kernel
theorem dX1_multiply_80 : decode cX1_multiply 80 = .ok (.iconst 0, 1) := by decide +kernel
theorem dX1_multiply_81 : decode cX1_multiply 81 = .ok (.istore 9, 2) := by decide +kernel
theorem dX1_multiply_83 : decode cX1_multiply 83 = .ok (.iload 9, 2) := by decide +kernel
theorem dX1_multiply_85 : decode cX1_multiply 85 = .ok (.iload 8, 2) := by decide +kernel
theorem dX1_multiply_87 : decode cX1_multiply 87 = .ok (.if_icmp .ge 57, 3) := by decide +kernel
theorem dX1_multiply_90 : decode cX1_multiply 90 = .ok (.aload_n 0, 1) := by decide +kernel
theorem dX1_multiply_91 : decode cX1_multiply 91 = .ok (.getfield 11, 3) := by decide +kernel
theorem dX1_multiply_94 : decode cX1_multiply 94 = .ok (.iload 5, 2) := by decide +kernel
theorem dX1_multiply_96 : decode cX1_multiply 96 = .ok (.iload 9, 2) := by decide +kernel
theorem dX1_multiply_98 : decode cX1_multiply 98 = .ok (.iadd, 1) := by decide +kernel
theorem dX1_multiply_99 : decode cX1_multiply 99 = .ok (.iaload, 1) := by decide +kernel
theorem dX1_multiply_100 : decode cX1_multiply 100 = .ok (.i2l, 1) := by decide +kernel
theorem dX1_multiply_101 : decode cX1_multiply 101 = .ok (.iload 7, 2) := by decide +kernel
theorem dX1_multiply_103 : decode cX1_multiply 103 = .ok (.i2l, 1) := by decide +kernel
theorem dX1_multiply_104 : decode cX1_multiply 104 = .ok (.aload_n 0, 1) := by decide +kernel
theorem dX1_multiply_105 : decode cX1_multiply 105 = .ok (.getfield 11, 3) := by decide +kernel
theorem dX1_multiply_108 : decode cX1_multiply 108 = .ok (.iload 6, 2) := by decide +kernel
theorem dX1_multiply_110 : decode cX1_multiply 110 = .ok (.iload 9, 2) := by decide +kernel
theorem dX1_multiply_112 : decode cX1_multiply 112 = .ok (.iadd, 1) := by decide +kernel
theorem dX1_multiply_113 : decode cX1_multiply 113 = .ok (.iaload, 1) := by decide +kernel
theorem dX1_multiply_114 : decode cX1_multiply 114 = .ok (.i2l, 1) := by decide +kernel
theorem dX1_multiply_115 : decode cX1_multiply 115 = .ok (.lmul, 1) := by decide +kernel
theorem dX1_multiply_116 : decode cX1_multiply 116 = .ok (.ladd, 1) := by decide +kernel
theorem dX1_multiply_117 : decode cX1_multiply 117 = .ok (.lstore 10, 2) := by decide +kernel
theorem dX1_multiply_119 : decode cX1_multiply 119 = .ok (.aload_n 0, 1) := by decide +kernel
theorem dX1_multiply_120 : decode cX1_multiply 120 = .ok (.getfield 11, 3) := by decide +kernel
theorem dX1_multiply_123 : decode cX1_multiply 123 = .ok (.iload 5, 2) := by decide +kernel
theorem dX1_multiply_125 : decode cX1_multiply 125 = .ok (.iload 9, 2) := by decide +kernel
theorem dX1_multiply_127 : decode cX1_multiply 127 = .ok (.iadd, 1) := by decide +kernel
theorem dX1_multiply_128 : decode cX1_multiply 128 = .ok (.lload 10, 2) := by decide +kernel
theorem dX1_multiply_130 : decode cX1_multiply 130 = .ok (.ldc2_w 140, 3) := by decide +kernel
theorem dX1_multiply_133 : decode cX1_multiply 133 = .ok (.invokestatic 142, 3) := by decide +kernel
theorem dX1_multiply_136 : decode cX1_multiply 136 = .ok (.l2i, 1) := by decide +kernel
theorem dX1_multiply_137 : decode cX1_multiply 137 = .ok (.iastore, 1) := by decide +kernel
theorem dX1_multiply_138 : decode cX1_multiply 138 = .ok (.iinc 9 1, 3) := by decide +kernel
theorem dX1_multiply_141 : decode cX1_multiply 141 = .ok (.goto (-58), 3) := by decide +kernel
theorem dX1_multiply_144 : decode cX1_multiply 144 = .ok (.iinc 4 (-1), 3) := by decide +kernel
theorem dX1_multiply_147 : decode cX1_multiply 147 = .ok (.goto (-131), 3) := by decide +kernel
theorem dX1_multiply_150 : decode cX1_multiply 150 = .ok (.iinc 3 1, 3) := by decide +kernel
theorem dX1_multiply_153 : decode cX1_multiply 153 = .ok (.goto (-151), 3) := by decide +kernel
theorem dX1_multiply_156 : decode cX1_multiply 156 = .ok (.return_, 1) := by decide +kernel
theorem dX2_init_0 : decode cX2_init 0 = .ok (.aload_n 0, 1) := by decide +kernel
theorem dX2_init_1 : decode cX2_init 1 = .ok (.invokespecial 3, 3) := by decide +kernel
theorem dX2_init_4 : decode cX2_init 4 = .ok (.aload_n 0, 1) := by decide +kernel
theorem dX2_init_5 : decode cX2_init 5 = .ok (.bipush 60, 2) := by decide +kernel
theorem dX2_init_7 : decode cX2_init 7 = .ok (.newarray .int, 2) := by decide +kernel
theorem dX2_init_9 : decode cX2_init 9 = .ok (.putfield 9, 3) := by decide +kernel
theorem dX2_init_12 : decode cX2_init 12 = .ok (.aload_n 0, 1) := by decide +kernel
theorem dX2_init_13 : decode cX2_init 13 = .ok (.iconst 0, 1) := by decide +kernel
theorem dX2_init_14 : decode cX2_init 14 = .ok (.putfield 15, 3) := by decide +kernel
theorem dX2_init_17 : decode cX2_init 17 = .ok (.aload_n 0, 1) := by decide +kernel
theorem dX2_init_18 : decode cX2_init 18 = .ok (.bipush 60, 2) := by decide +kernel
theorem dX2_init_20 : decode cX2_init 20 = .ok (.newarray .int, 2) := by decide +kernel
theorem dX2_init_22 : decode cX2_init 22 = .ok (.putfield 19, 3) := by decide +kernel
theorem dX2_init_25 : decode cX2_init 25 = .ok (.aload_n 0, 1) := by decide +kernel
theorem dX2_init_26 : decode cX2_init 26 = .ok (.bipush 60, 2) := by decide +kernel
theorem dX2_init_28 : decode cX2_init 28 = .ok (.newarray .int, 2) := by decide +kernel
theorem dX2_init_30 : decode cX2_init 30 = .ok (.putfield 22, 3) := by decide +kernel
theorem dX2_init_33 : decode cX2_init 33 = .ok (.aload_n 0, 1) := by decide +kernel
theorem dX2_init_34 : decode cX2_init 34 = .ok (.iconst 0, 1) := by decide +kernel
theorem dX2_init_35 : decode cX2_init 35 = .ok (.putfield 25, 3) := by decide +kernel
theorem dX2_init_38 : decode cX2_init 38 = .ok (.aload_n 0, 1) := by decide +kernel
theorem dX2_init_39 : decode cX2_init 39 = .ok (.iconst 0, 1) := by decide +kernel
theorem dX2_init_40 : decode cX2_init 40 = .ok (.putfield 28, 3) := by decide +kernel
theorem dX2_init_43 : decode cX2_init 43 = .ok (.aload_n 0, 1) := by decide +kernel
theorem dX2_init_44 : decode cX2_init 44 = .ok (.sipush 480, 3) := by decide +kernel
theorem dX2_init_47 : decode cX2_init 47 = .ok (.newarray .int, 2) := by decide +kernel
theorem dX2_init_49 : decode cX2_init 49 = .ok (.putfield 32, 3) := by decide +kernel
theorem dX2_init_52 : decode cX2_init 52 = .ok (.aload_n 0, 1) := by decide +kernel
theorem dX2_init_53 : decode cX2_init 53 = .ok (.sipush 480, 3) := by decide +kernel
theorem dX2_init_56 : decode cX2_init 56 = .ok (.newarray .int, 2) := by decide +kernel
theorem dX2_init_58 : decode cX2_init 58 = .ok (.putfield 35, 3) := by decide +kernel
theorem dX2_init_61 : decode cX2_init 61 = .ok (.aload_n 0, 1) := by decide +kernel
theorem dX2_init_62 : decode cX2_init 62 = .ok (.bipush 8, 2) := by decide +kernel
theorem dX2_init_64 : decode cX2_init 64 = .ok (.newarray .int, 2) := by decide +kernel
theorem dX2_init_66 : decode cX2_init 66 = .ok (.putfield 38, 3) := by decide +kernel
theorem dX2_init_69 : decode cX2_init 69 = .ok (.aload_n 0, 1) := by decide +kernel
theorem dX2_init_70 : decode cX2_init 70 = .ok (.bipush 8, 2) := by decide +kernel
theorem dX2_init_72 : decode cX2_init 72 = .ok (.newarray .int, 2) := by decide +kernel
theorem dX2_init_74 : decode cX2_init 74 = .ok (.putfield 41, 3) := by decide +kernel
theorem dX2_init_77 : decode cX2_init 77 = .ok (.aload_n 0, 1) := by decide +kernel
theorem dX2_init_78 : decode cX2_init 78 = .ok (.bipush 8, 2) := by decide +kernel
theorem dX2_init_80 : decode cX2_init 80 = .ok (.newarray .int, 2) := by decide +kernel
theorem dX2_init_82 : decode cX2_init 82 = .ok (.putfield 44, 3) := by decide +kernel
theorem dX2_init_85 : decode cX2_init 85 = .ok (.aload_n 0, 1) := by decide +kernel
theorem dX2_init_86 : decode cX2_init 86 = .ok (.iconst 0, 1) := by decide +kernel
theorem dX2_init_87 : decode cX2_init 87 = .ok (.putfield 47, 3) := by decide +kernel
theorem dX2_init_90 : decode cX2_init 90 = .ok (.aload_n 0, 1) := by decide +kernel
theorem dX2_init_91 : decode cX2_init 91 = .ok (.iconst 1, 1) := by decide +kernel
theorem dX2_init_92 : decode cX2_init 92 = .ok (.putfield 50, 3) := by decide +kernel
theorem dX2_init_95 : decode cX2_init 95 = .ok (.return_, 1) := by decide +kernel
theorem dX2_isTold_0 : decode cX2_isTold 0 = .ok (.iload_n 1, 1) := by decide +kernel
theorem dX2_isTold_1 : decode cX2_isTold 1 = .ok (.ifCond .lt 22, 3) := by decide +kernel
theorem dX2_isTold_4 : decode cX2_isTold 4 = .ok (.iload_n 1, 1) := by decide +kernel
theorem dX2_isTold_5 : decode cX2_isTold 5 = .ok (.bipush 8, 2) := by decide +kernel
theorem dX2_isTold_7 : decode cX2_isTold 7 = .ok (.if_icmp .ge 16, 3) := by decide +kernel
theorem dX2_isTold_10 : decode cX2_isTold 10 = .ok (.aload_n 0, 1) := by decide +kernel
theorem dX2_isTold_11 : decode cX2_isTold 11 = .ok (.getfield 38, 3) := by decide +kernel
theorem dX2_isTold_14 : decode cX2_isTold 14 = .ok (.iload_n 1, 1) := by decide +kernel
theorem dX2_isTold_15 : decode cX2_isTold 15 = .ok (.iaload, 1) := by decide +kernel
theorem dX2_isTold_16 : decode cX2_isTold 16 = .ok (.ifCond .le 7, 3) := by decide +kernel
theorem dX2_isTold_19 : decode cX2_isTold 19 = .ok (.iconst 1, 1) := by decide +kernel
theorem dX2_isTold_20 : decode cX2_isTold 20 = .ok (.goto 4, 3) := by decide +kernel
theorem dX2_isTold_23 : decode cX2_isTold 23 = .ok (.iconst 0, 1) := by decide +kernel
theorem dX2_isTold_24 : decode cX2_isTold 24 = .ok (.ireturn, 1) := by decide +kernel
theorem dX2_sign_0 : decode cX2_sign 0 = .ok (.aload_n 0, 1) := by decide +kernel
theorem dX2_sign_1 : decode cX2_sign 1 = .ok (.getfield 32, 3) := by decide +kernel
theorem dX2_sign_4 : decode cX2_sign 4 = .ok (.iload_n 1, 1) := by decide +kernel
theorem dX2_sign_5 : decode cX2_sign 5 = .ok (.bipush 60, 2) := by decide +kernel
theorem dX2_sign_7 : decode cX2_sign 7 = .ok (.imul, 1) := by decide +kernel
theorem dX2_sign_8 : decode cX2_sign 8 = .ok (.iload_n 2, 1) := by decide +kernel
theorem dX2_sign_9 : decode cX2_sign 9 = .ok (.iadd, 1) := by decide +kernel
theorem dX2_sign_10 : decode cX2_sign 10 = .ok (.iaload, 1) := by decide +kernel
theorem dX2_sign_11 : decode cX2_sign 11 = .ok (.ireturn, 1) := by decide +kernel
theorem dX2_mateOf_0 : decode cX2_mateOf 0 = .ok (.aload_n 0, 1) := by decide +kernel
theorem dX2_mateOf_1 : decode cX2_mateOf 1 = .ok (.getfield 35, 3) := by decide +kernel
theorem dX2_mateOf_4 : decode cX2_mateOf 4 = .ok (.iload_n 1, 1) := by decide +kernel
theorem dX2_mateOf_5 : decode cX2_mateOf 5 = .ok (.bipush 60, 2) := by decide +kernel
theorem dX2_mateOf_7 : decode cX2_mateOf 7 = .ok (.imul, 1) := by decide +kernel
theorem dX2_mateOf_8 : decode cX2_mateOf 8 = .ok (.iload_n 2, 1) := by decide +kernel
theorem dX2_mateOf_9 : decode cX2_mateOf 9 = .ok (.iadd, 1) := by decide +kernel
theorem dX2_mateOf_10 : decode cX2_mateOf 10 = .ok (.iaload, 1) := by decide +kernel
theorem dX2_mateOf_11 : decode cX2_mateOf 11 = .ok (.ireturn, 1) := by decide +kernel
theorem dX2_append_0 : decode cX2_append 0 = .ok (.iload_n 3, 1) := by decide +kernel
theorem dX2_append_1 : decode cX2_append 1 = .ok (.iconst 1, 1) := by decide +kernel
theorem dX2_append_2 : decode cX2_append 2 = .ok (.isub, 1) := by decide +kernel
theorem dX2_append_3 : decode cX2_append 3 = .ok (.istore 4, 2) := by decide +kernel
theorem dX2_append_5 : decode cX2_append 5 = .ok (.iload 4, 2) := by decide +kernel
theorem dX2_append_7 : decode cX2_append 7 = .ok (.ifCond .lt 40, 3) := by decide +kernel
theorem dX2_append_10 : decode cX2_append 10 = .ok (.aload_n 0, 1) := by decide +kernel
theorem dX2_append_11 : decode cX2_append 11 = .ok (.getfield 9, 3) := by decide +kernel
theorem dX2_append_14 : decode cX2_append 14 = .ok (.aload_n 0, 1) := by decide +kernel
theorem dX2_append_15 : decode cX2_append 15 = .ok (.getfield 15, 3) := by decide +kernel
theorem dX2_append_18 : decode cX2_append 18 = .ok (.lload_n 1, 1) := by decide +kernel
theorem dX2_append_19 : decode cX2_append 19 = .ok (.bipush 8, 2) := by decide +kernel
theorem dX2_append_21 : decode cX2_append 21 = .ok (.iload 4, 2) := by decide +kernel
theorem dX2_append_23 : decode cX2_append 23 = .ok (.imul, 1) := by decide +kernel
theorem dX2_append_24 : decode cX2_append 24 = .ok (.lushr, 1) := by decide +kernel
theorem dX2_append_25 : decode cX2_append 25 = .ok (.ldc2_w 53, 3) := by decide +kernel
theorem dX2_append_28 : decode cX2_append 28 = .ok (.land, 1) := by decide +kernel
theorem dX2_append_29 : decode cX2_append 29 = .ok (.l2i, 1) := by decide +kernel
theorem dX2_append_30 : decode cX2_append 30 = .ok (.iastore, 1) := by decide +kernel
theorem dX2_append_31 : decode cX2_append 31 = .ok (.aload_n 0, 1) := by decide +kernel
theorem dX2_append_32 : decode cX2_append 32 = .ok (.dup, 1) := by decide +kernel
theorem dX2_append_33 : decode cX2_append 33 = .ok (.getfield 15, 3) := by decide +kernel
theorem dX2_append_36 : decode cX2_append 36 = .ok (.iconst 1, 1) := by decide +kernel
theorem dX2_append_37 : decode cX2_append 37 = .ok (.iadd, 1) := by decide +kernel
theorem dX2_append_38 : decode cX2_append 38 = .ok (.putfield 15, 3) := by decide +kernel
theorem dX2_append_41 : decode cX2_append 41 = .ok (.iinc 4 (-1), 3) := by decide +kernel
theorem dX2_append_44 : decode cX2_append 44 = .ok (.goto (-39), 3) := by decide +kernel
theorem dX2_append_47 : decode cX2_append 47 = .ok (.aload_n 0, 1) := by decide +kernel
theorem dX2_append_48 : decode cX2_append 48 = .ok (.getfield 15, 3) := by decide +kernel
theorem dX2_append_51 : decode cX2_append 51 = .ok (.ireturn, 1) := by decide +kernel
theorem dX2_tellTape_0 : decode cX2_tellTape 0 = .ok (.aload_n 0, 1) := by decide +kernel
theorem dX2_tellTape_1 : decode cX2_tellTape 1 = .ok (.invokevirtual 55, 3) := by decide +kernel
theorem dX2_tellTape_4 : decode cX2_tellTape 4 = .ok (.istore_n 1, 1) := by decide +kernel
theorem dX2_tellTape_5 : decode cX2_tellTape 5 = .ok (.aload_n 0, 1) := by decide +kernel
theorem dX2_tellTape_6 : decode cX2_tellTape 6 = .ok (.iconst 0, 1) := by decide +kernel
theorem dX2_tellTape_7 : decode cX2_tellTape 7 = .ok (.putfield 15, 3) := by decide +kernel
theorem dX2_tellTape_10 : decode cX2_tellTape 10 = .ok (.iload_n 1, 1) := by decide +kernel
theorem dX2_tellTape_11 : decode cX2_tellTape 11 = .ok (.ireturn, 1) := by decide +kernel
theorem dX2_readTape_0 : decode cX2_readTape 0 = .ok (.aload_n 0, 1) := by decide +kernel
theorem dX2_readTape_1 : decode cX2_readTape 1 = .ok (.invokevirtual 59, 3) := by decide +kernel
theorem dX2_readTape_4 : decode cX2_readTape 4 = .ok (.istore_n 1, 1) := by decide +kernel
theorem dX2_readTape_5 : decode cX2_readTape 5 = .ok (.iload_n 1, 1) := by decide +kernel
theorem dX2_readTape_6 : decode cX2_readTape 6 = .ok (.ifCond .lt 9, 3) := by decide +kernel
theorem dX2_readTape_9 : decode cX2_readTape 9 = .ok (.sipush (-1000), 3) := by decide +kernel
theorem dX2_readTape_12 : decode cX2_readTape 12 = .ok (.iload_n 1, 1) := by decide +kernel
theorem dX2_readTape_13 : decode cX2_readTape 13 = .ok (.isub, 1) := by decide +kernel
theorem dX2_readTape_14 : decode cX2_readTape 14 = .ok (.ireturn, 1) := by decide +kernel
theorem dX2_readTape_15 : decode cX2_readTape 15 = .ok (.aload_n 0, 1) := by decide +kernel
theorem dX2_readTape_16 : decode cX2_readTape 16 = .ok (.getfield 9, 3) := by decide +kernel
theorem dX2_readTape_19 : decode cX2_readTape 19 = .ok (.iconst 0, 1) := by decide +kernel
theorem dX2_readTape_20 : decode cX2_readTape 20 = .ok (.iaload, 1) := by decide +kernel
theorem dX2_readTape_21 : decode cX2_readTape 21 = .ok (.bipush 65, 2) := by decide +kernel
theorem dX2_readTape_23 : decode cX2_readTape 23 = .ok (.isub, 1) := by decide +kernel
theorem dX2_readTape_24 : decode cX2_readTape 24 = .ok (.istore_n 2, 1) := by decide +kernel
theorem dX2_readTape_25 : decode cX2_readTape 25 = .ok (.aload_n 0, 1) := by decide +kernel
theorem dX2_readTape_26 : decode cX2_readTape 26 = .ok (.iload_n 2, 1) := by decide +kernel
theorem dX2_readTape_27 : decode cX2_readTape 27 = .ok (.invokevirtual 62, 3) := by decide +kernel
theorem dX2_readTape_30 : decode cX2_readTape 30 = .ok (.istore_n 1, 1) := by decide +kernel
theorem dX2_readTape_31 : decode cX2_readTape 31 = .ok (.iload_n 1, 1) := by decide +kernel
theorem dX2_readTape_32 : decode cX2_readTape 32 = .ok (.ifCond .lt 9, 3) := by decide +kernel
theorem dX2_readTape_35 : decode cX2_readTape 35 = .ok (.sipush (-2000), 3) := by decide +kernel
theorem dX2_readTape_38 : decode cX2_readTape 38 = .ok (.iload_n 1, 1) := by decide +kernel
theorem dX2_readTape_39 : decode cX2_readTape 39 = .ok (.isub, 1) := by decide +kernel
theorem dX2_readTape_40 : decode cX2_readTape 40 = .ok (.ireturn, 1) := by decide +kernel
theorem dX2_readTape_41 : decode cX2_readTape 41 = .ok (.aload_n 0, 1) := by decide +kernel
theorem dX2_readTape_42 : decode cX2_readTape 42 = .ok (.iload_n 2, 1) := by decide +kernel
theorem dX2_readTape_43 : decode cX2_readTape 43 = .ok (.invokevirtual 66, 3) := by decide +kernel
theorem dX2_readTape_46 : decode cX2_readTape 46 = .ok (.ifCond .eq 7, 3) := by decide +kernel
theorem dX2_readTape_49 : decode cX2_readTape 49 = .ok (.sipush (-3000), 3) := by decide +kernel
theorem dX2_readTape_52 : decode cX2_readTape 52 = .ok (.ireturn, 1) := by decide +kernel
theorem dX2_readTape_53 : decode cX2_readTape 53 = .ok (.aload_n 0, 1) := by decide +kernel
theorem dX2_readTape_54 : decode cX2_readTape 54 = .ok (.iload_n 2, 1) := by decide +kernel
theorem dX2_readTape_55 : decode cX2_readTape 55 = .ok (.invokevirtual 70, 3) := by decide +kernel
theorem dX2_readTape_58 : decode cX2_readTape 58 = .ok (.iload_n 2, 1) := by decide +kernel
theorem dX2_readTape_59 : decode cX2_readTape 59 = .ok (.ireturn, 1) := by decide +kernel
theorem dX2_misfit_0 : decode cX2_misfit 0 = .ok (.aload_n 0, 1) := by decide +kernel
theorem dX2_misfit_1 : decode cX2_misfit 1 = .ok (.iconst 0, 1) := by decide +kernel
theorem dX2_misfit_2 : decode cX2_misfit 2 = .ok (.putfield 25, 3) := by decide +kernel
theorem dX2_misfit_5 : decode cX2_misfit 5 = .ok (.aload_n 0, 1) := by decide +kernel
theorem dX2_misfit_6 : decode cX2_misfit 6 = .ok (.iconst 0, 1) := by decide +kernel
theorem dX2_misfit_7 : decode cX2_misfit 7 = .ok (.putfield 28, 3) := by decide +kernel
theorem dX2_misfit_10 : decode cX2_misfit 10 = .ok (.iconst 0, 1) := by decide +kernel
theorem dX2_misfit_11 : decode cX2_misfit 11 = .ok (.istore_n 1, 1) := by decide +kernel
theorem dX2_misfit_12 : decode cX2_misfit 12 = .ok (.iload_n 1, 1) := by decide +kernel
theorem dX2_misfit_13 : decode cX2_misfit 13 = .ok (.aload_n 0, 1) := by decide +kernel
theorem dX2_misfit_14 : decode cX2_misfit 14 = .ok (.getfield 15, 3) := by decide +kernel
theorem dX2_misfit_17 : decode cX2_misfit 17 = .ok (.if_icmp .ge 19, 3) := by decide +kernel
theorem dX2_misfit_20 : decode cX2_misfit 20 = .ok (.aload_n 0, 1) := by decide +kernel
theorem dX2_misfit_21 : decode cX2_misfit 21 = .ok (.iload_n 1, 1) := by decide +kernel
theorem dX2_misfit_22 : decode cX2_misfit 22 = .ok (.invokevirtual 74, 3) := by decide +kernel
theorem dX2_misfit_25 : decode cX2_misfit 25 = .ok (.ifCond .ne 5, 3) := by decide +kernel
theorem dX2_misfit_28 : decode cX2_misfit 28 = .ok (.iload_n 1, 1) := by decide +kernel
theorem dX2_misfit_29 : decode cX2_misfit 29 = .ok (.ireturn, 1) := by decide +kernel
theorem dX2_misfit_30 : decode cX2_misfit 30 = .ok (.iinc 1 1, 3) := by decide +kernel
theorem dX2_misfit_33 : decode cX2_misfit 33 = .ok (.goto (-21), 3) := by decide +kernel
theorem dX2_misfit_36 : decode cX2_misfit 36 = .ok (.aload_n 0, 1) := by decide +kernel
theorem dX2_misfit_37 : decode cX2_misfit 37 = .ok (.getfield 28, 3) := by decide +kernel
theorem dX2_misfit_40 : decode cX2_misfit 40 = .ok (.ifCond .eq 14, 3) := by decide +kernel
theorem dX2_misfit_43 : decode cX2_misfit 43 = .ok (.aload_n 0, 1) := by decide +kernel
theorem dX2_misfit_44 : decode cX2_misfit 44 = .ok (.getfield 25, 3) := by decide +kernel
theorem dX2_misfit_47 : decode cX2_misfit 47 = .ok (.ifCond .ne 7, 3) := by decide +kernel
theorem dX2_misfit_50 : decode cX2_misfit 50 = .ok (.iconst (-1), 1) := by decide +kernel
theorem dX2_misfit_51 : decode cX2_misfit 51 = .ok (.goto 7, 3) := by decide +kernel
theorem dX2_misfit_54 : decode cX2_misfit 54 = .ok (.aload_n 0, 1) := by decide +kernel
theorem dX2_misfit_55 : decode cX2_misfit 55 = .ok (.getfield 15, 3) := by decide +kernel
theorem dX2_misfit_58 : decode cX2_misfit 58 = .ok (.ireturn, 1) := by decide +kernel
theorem dX2_goesOn_0 : decode cX2_goesOn 0 = .ok (.aload_n 0, 1) := by decide +kernel
theorem dX2_goesOn_1 : decode cX2_goesOn 1 = .ok (.getfield 9, 3) := by decide +kernel
theorem dX2_goesOn_4 : decode cX2_goesOn 4 = .ok (.iload_n 1, 1) := by decide +kernel
theorem dX2_goesOn_5 : decode cX2_goesOn 5 = .ok (.iaload, 1) := by decide +kernel
theorem dX2_goesOn_6 : decode cX2_goesOn 6 = .ok (.istore_n 2, 1) := by decide +kernel
theorem dX2_goesOn_7 : decode cX2_goesOn 7 = .ok (.iload_n 1, 1) := by decide +kernel
theorem dX2_goesOn_8 : decode cX2_goesOn 8 = .ok (.ifCond .ne 8, 3) := by decide +kernel
theorem dX2_goesOn_11 : decode cX2_goesOn 11 = .ok (.iload_n 2, 1) := by decide +kernel
theorem dX2_goesOn_12 : decode cX2_goesOn 12 = .ok (.invokestatic 77, 3) := by decide +kernel
theorem dX2_goesOn_15 : decode cX2_goesOn 15 = .ok (.ireturn, 1) := by decide +kernel
theorem dX2_goesOn_16 : decode cX2_goesOn 16 = .ok (.iload_n 1, 1) := by decide +kernel
theorem dX2_goesOn_17 : decode cX2_goesOn 17 = .ok (.iconst 1, 1) := by decide +kernel
theorem dX2_goesOn_18 : decode cX2_goesOn 18 = .ok (.if_icmp .ne 15, 3) := by decide +kernel
theorem dX2_goesOn_21 : decode cX2_goesOn 21 = .ok (.iload_n 2, 1) := by decide +kernel
theorem dX2_goesOn_22 : decode cX2_goesOn 22 = .ok (.bipush 61, 2) := by decide +kernel
theorem dX2_goesOn_24 : decode cX2_goesOn 24 = .ok (.if_icmp .ne 7, 3) := by decide +kernel
theorem dX2_goesOn_27 : decode cX2_goesOn 27 = .ok (.iconst 1, 1) := by decide +kernel
theorem dX2_goesOn_28 : decode cX2_goesOn 28 = .ok (.goto 4, 3) := by decide +kernel
theorem dX2_goesOn_31 : decode cX2_goesOn 31 = .ok (.iconst 0, 1) := by decide +kernel
theorem dX2_goesOn_32 : decode cX2_goesOn 32 = .ok (.ireturn, 1) := by decide +kernel
theorem dX2_goesOn_33 : decode cX2_goesOn 33 = .ok (.iload_n 2, 1) := by decide +kernel
theorem dX2_goesOn_34 : decode cX2_goesOn 34 = .ok (.invokestatic 80, 3) := by decide +kernel
theorem dX2_goesOn_37 : decode cX2_goesOn 37 = .ok (.ifCond .ne 10, 3) := by decide +kernel
theorem dX2_goesOn_40 : decode cX2_goesOn 40 = .ok (.iload_n 2, 1) := by decide +kernel
theorem dX2_goesOn_41 : decode cX2_goesOn 41 = .ok (.invokestatic 77, 3) := by decide +kernel
theorem dX2_goesOn_44 : decode cX2_goesOn 44 = .ok (.ifCond .eq 10, 3) := by decide +kernel
theorem dX2_goesOn_47 : decode cX2_goesOn 47 = .ok (.aload_n 0, 1) := by decide +kernel
theorem dX2_goesOn_48 : decode cX2_goesOn 48 = .ok (.iconst 1, 1) := by decide +kernel
theorem dX2_goesOn_49 : decode cX2_goesOn 49 = .ok (.putfield 28, 3) := by decide +kernel
theorem dX2_goesOn_52 : decode cX2_goesOn 52 = .ok (.iconst 1, 1) := by decide +kernel
theorem dX2_goesOn_53 : decode cX2_goesOn 53 = .ok (.ireturn, 1) := by decide +kernel
theorem dX2_goesOn_54 : decode cX2_goesOn 54 = .ok (.iload_n 2, 1) := by decide +kernel
theorem dX2_goesOn_55 : decode cX2_goesOn 55 = .ok (.bipush 91, 2) := by decide +kernel
theorem dX2_goesOn_57 : decode cX2_goesOn 57 = .ok (.if_icmp .eq 15, 3) := by decide +kernel
theorem dX2_goesOn_60 : decode cX2_goesOn 60 = .ok (.iload_n 2, 1) := by decide +kernel
theorem dX2_goesOn_61 : decode cX2_goesOn 61 = .ok (.bipush 123, 2) := by decide +kernel
theorem dX2_goesOn_63 : decode cX2_goesOn 63 = .ok (.if_icmp .eq 9, 3) := by decide +kernel
theorem dX2_goesOn_66 : decode cX2_goesOn 66 = .ok (.iload_n 2, 1) := by decide +kernel
theorem dX2_goesOn_67 : decode cX2_goesOn 67 = .ok (.bipush 40, 2) := by decide +kernel
theorem dX2_goesOn_69 : decode cX2_goesOn 69 = .ok (.if_icmp .ne 9, 3) := by decide +kernel
theorem dX2_goesOn_72 : decode cX2_goesOn 72 = .ok (.aload_n 0, 1) := by decide +kernel
theorem dX2_goesOn_73 : decode cX2_goesOn 73 = .ok (.iload_n 1, 1) := by decide +kernel
theorem dX2_goesOn_74 : decode cX2_goesOn 74 = .ok (.invokevirtual 83, 3) := by decide +kernel
theorem dX2_goesOn_77 : decode cX2_goesOn 77 = .ok (.ireturn, 1) := by decide +kernel
theorem dX2_goesOn_78 : decode cX2_goesOn 78 = .ok (.aload_n 0, 1) := by decide +kernel
theorem dX2_goesOn_79 : decode cX2_goesOn 79 = .ok (.getfield 28, 3) := by decide +kernel
theorem dX2_goesOn_82 : decode cX2_goesOn 82 = .ok (.ifCond .eq 33, 3) := by decide +kernel
theorem dX2_goesOn_85 : decode cX2_goesOn 85 = .ok (.aload_n 0, 1) := by decide +kernel
theorem dX2_goesOn_86 : decode cX2_goesOn 86 = .ok (.getfield 25, 3) := by decide +kernel
theorem dX2_goesOn_89 : decode cX2_goesOn 89 = .ok (.ifCond .le 26, 3) := by decide +kernel
theorem dX2_goesOn_92 : decode cX2_goesOn 92 = .ok (.aload_n 0, 1) := by decide +kernel
theorem dX2_goesOn_93 : decode cX2_goesOn 93 = .ok (.iload_n 1, 1) := by decide +kernel
theorem dX2_goesOn_94 : decode cX2_goesOn 94 = .ok (.aload_n 0, 1) := by decide +kernel
theorem dX2_goesOn_95 : decode cX2_goesOn 95 = .ok (.getfield 22, 3) := by decide +kernel
theorem dX2_goesOn_98 : decode cX2_goesOn 98 = .ok (.aload_n 0, 1) := by decide +kernel
theorem dX2_goesOn_99 : decode cX2_goesOn 99 = .ok (.getfield 25, 3) := by decide +kernel
theorem dX2_goesOn_102 : decode cX2_goesOn 102 = .ok (.iconst 1, 1) := by decide +kernel
theorem dX2_goesOn_103 : decode cX2_goesOn 103 = .ok (.isub, 1) := by decide +kernel
theorem dX2_goesOn_104 : decode cX2_goesOn 104 = .ok (.iaload, 1) := by decide +kernel
theorem dX2_goesOn_105 : decode cX2_goesOn 105 = .ok (.invokevirtual 86, 3) := by decide +kernel
theorem dX2_goesOn_108 : decode cX2_goesOn 108 = .ok (.ifCond .eq 7, 3) := by decide +kernel
theorem dX2_goesOn_111 : decode cX2_goesOn 111 = .ok (.iconst 1, 1) := by decide +kernel
theorem dX2_goesOn_112 : decode cX2_goesOn 112 = .ok (.goto 4, 3) := by decide +kernel
theorem dX2_goesOn_115 : decode cX2_goesOn 115 = .ok (.iconst 0, 1) := by decide +kernel
theorem dX2_goesOn_116 : decode cX2_goesOn 116 = .ok (.ireturn, 1) := by decide +kernel
theorem dX2_opens_0 : decode cX2_opens 0 = .ok (.aload_n 0, 1) := by decide +kernel
theorem dX2_opens_1 : decode cX2_opens 1 = .ok (.getfield 25, 3) := by decide +kernel
theorem dX2_opens_4 : decode cX2_opens 4 = .ok (.bipush 60, 2) := by decide +kernel
theorem dX2_opens_6 : decode cX2_opens 6 = .ok (.if_icmp .lt 5, 3) := by decide +kernel
theorem dX2_opens_9 : decode cX2_opens 9 = .ok (.iconst 0, 1) := by decide +kernel
theorem dX2_opens_10 : decode cX2_opens 10 = .ok (.ireturn, 1) := by decide +kernel
theorem dX2_opens_11 : decode cX2_opens 11 = .ok (.aload_n 0, 1) := by decide +kernel
theorem dX2_opens_12 : decode cX2_opens 12 = .ok (.getfield 22, 3) := by decide +kernel
theorem dX2_opens_15 : decode cX2_opens 15 = .ok (.aload_n 0, 1) := by decide +kernel
theorem dX2_opens_16 : decode cX2_opens 16 = .ok (.getfield 25, 3) := by decide +kernel
theorem dX2_opens_19 : decode cX2_opens 19 = .ok (.iload_n 1, 1) := by decide +kernel
theorem dX2_opens_20 : decode cX2_opens 20 = .ok (.iastore, 1) := by decide +kernel
theorem dX2_opens_21 : decode cX2_opens 21 = .ok (.aload_n 0, 1) := by decide +kernel
theorem dX2_opens_22 : decode cX2_opens 22 = .ok (.dup, 1) := by decide +kernel
theorem dX2_opens_23 : decode cX2_opens 23 = .ok (.getfield 25, 3) := by decide +kernel
theorem dX2_opens_26 : decode cX2_opens 26 = .ok (.iconst 1, 1) := by decide +kernel
theorem dX2_opens_27 : decode cX2_opens 27 = .ok (.iadd, 1) := by decide +kernel
theorem dX2_opens_28 : decode cX2_opens 28 = .ok (.putfield 25, 3) := by decide +kernel
theorem dX2_opens_31 : decode cX2_opens 31 = .ok (.aload_n 0, 1) := by decide +kernel
theorem dX2_opens_32 : decode cX2_opens 32 = .ok (.iconst 0, 1) := by decide +kernel
theorem dX2_opens_33 : decode cX2_opens 33 = .ok (.putfield 28, 3) := by decide +kernel
theorem dX2_opens_36 : decode cX2_opens 36 = .ok (.iconst 1, 1) := by decide +kernel
theorem dX2_opens_37 : decode cX2_opens 37 = .ok (.ireturn, 1) := by decide +kernel
theorem dX2_closes_0 : decode cX2_closes 0 = .ok (.aload_n 0, 1) := by decide +kernel
theorem dX2_closes_1 : decode cX2_closes 1 = .ok (.getfield 9, 3) := by decide +kernel
theorem dX2_closes_4 : decode cX2_closes 4 = .ok (.iload_n 1, 1) := by decide +kernel
theorem dX2_closes_5 : decode cX2_closes 5 = .ok (.iaload, 1) := by decide +kernel
theorem dX2_closes_6 : decode cX2_closes 6 = .ok (.bipush 124, 2) := by decide +kernel
theorem dX2_closes_8 : decode cX2_closes 8 = .ok (.if_icmp .ne 40, 3) := by decide +kernel
theorem dX2_closes_11 : decode cX2_closes 11 = .ok (.aload_n 0, 1) := by decide +kernel
theorem dX2_closes_12 : decode cX2_closes 12 = .ok (.getfield 9, 3) := by decide +kernel
theorem dX2_closes_15 : decode cX2_closes 15 = .ok (.iload_n 2, 1) := by decide +kernel
theorem dX2_closes_16 : decode cX2_closes 16 = .ok (.iaload, 1) := by decide +kernel
theorem dX2_closes_17 : decode cX2_closes 17 = .ok (.bipush 40, 2) := by decide +kernel
theorem dX2_closes_19 : decode cX2_closes 19 = .ok (.if_icmp .ne 29, 3) := by decide +kernel
theorem dX2_closes_22 : decode cX2_closes 22 = .ok (.aload_n 0, 1) := by decide +kernel
theorem dX2_closes_23 : decode cX2_closes 23 = .ok (.getfield 19, 3) := by decide +kernel
theorem dX2_closes_26 : decode cX2_closes 26 = .ok (.iload_n 2, 1) := by decide +kernel
theorem dX2_closes_27 : decode cX2_closes 27 = .ok (.iload_n 1, 1) := by decide +kernel
theorem dX2_closes_28 : decode cX2_closes 28 = .ok (.iastore, 1) := by decide +kernel
theorem dX2_closes_29 : decode cX2_closes 29 = .ok (.aload_n 0, 1) := by decide +kernel
theorem dX2_closes_30 : decode cX2_closes 30 = .ok (.getfield 22, 3) := by decide +kernel
theorem dX2_closes_33 : decode cX2_closes 33 = .ok (.aload_n 0, 1) := by decide +kernel
theorem dX2_closes_34 : decode cX2_closes 34 = .ok (.getfield 25, 3) := by decide +kernel
theorem dX2_closes_37 : decode cX2_closes 37 = .ok (.iconst 1, 1) := by decide +kernel
theorem dX2_closes_38 : decode cX2_closes 38 = .ok (.isub, 1) := by decide +kernel
theorem dX2_closes_39 : decode cX2_closes 39 = .ok (.iload_n 1, 1) := by decide +kernel
theorem dX2_closes_40 : decode cX2_closes 40 = .ok (.iastore, 1) := by decide +kernel
theorem dX2_closes_41 : decode cX2_closes 41 = .ok (.aload_n 0, 1) := by decide +kernel
theorem dX2_closes_42 : decode cX2_closes 42 = .ok (.iconst 0, 1) := by decide +kernel
theorem dX2_closes_43 : decode cX2_closes 43 = .ok (.putfield 28, 3) := by decide +kernel
theorem dX2_closes_46 : decode cX2_closes 46 = .ok (.iconst 1, 1) := by decide +kernel
theorem dX2_closes_47 : decode cX2_closes 47 = .ok (.ireturn, 1) := by decide +kernel
theorem dX2_closes_48 : decode cX2_closes 48 = .ok (.aload_n 0, 1) := by decide +kernel
theorem dX2_closes_49 : decode cX2_closes 49 = .ok (.getfield 9, 3) := by decide +kernel
theorem dX2_closes_52 : decode cX2_closes 52 = .ok (.iload_n 1, 1) := by decide +kernel
theorem dX2_closes_53 : decode cX2_closes 53 = .ok (.iaload, 1) := by decide +kernel
theorem dX2_closes_54 : decode cX2_closes 54 = .ok (.aload_n 0, 1) := by decide +kernel
theorem dX2_closes_55 : decode cX2_closes 55 = .ok (.getfield 9, 3) := by decide +kernel
theorem dX2_closes_58 : decode cX2_closes 58 = .ok (.iload_n 2, 1) := by decide +kernel
theorem dX2_closes_59 : decode cX2_closes 59 = .ok (.iaload, 1) := by decide +kernel
theorem dX2_closes_60 : decode cX2_closes 60 = .ok (.invokestatic 90, 3) := by decide +kernel
theorem dX2_closes_63 : decode cX2_closes 63 = .ok (.if_icmp .eq 5, 3) := by decide +kernel
theorem dX2_closes_66 : decode cX2_closes 66 = .ok (.iconst 0, 1) := by decide +kernel
theorem dX2_closes_67 : decode cX2_closes 67 = .ok (.ireturn, 1) := by decide +kernel
theorem dX2_closes_68 : decode cX2_closes 68 = .ok (.aload_n 0, 1) := by decide +kernel
theorem dX2_closes_69 : decode cX2_closes 69 = .ok (.getfield 19, 3) := by decide +kernel
theorem dX2_closes_72 : decode cX2_closes 72 = .ok (.iload_n 2, 1) := by decide +kernel
theorem dX2_closes_73 : decode cX2_closes 73 = .ok (.iload_n 1, 1) := by decide +kernel
theorem dX2_closes_74 : decode cX2_closes 74 = .ok (.iastore, 1) := by decide +kernel
theorem dX2_closes_75 : decode cX2_closes 75 = .ok (.aload_n 0, 1) := by decide +kernel
theorem dX2_closes_76 : decode cX2_closes 76 = .ok (.getfield 19, 3) := by decide +kernel
theorem dX2_closes_79 : decode cX2_closes 79 = .ok (.iload_n 1, 1) := by decide +kernel
theorem dX2_closes_80 : decode cX2_closes 80 = .ok (.iload_n 2, 1) := by decide +kernel
theorem dX2_closes_81 : decode cX2_closes 81 = .ok (.iastore, 1) := by decide +kernel
theorem dX2_closes_82 : decode cX2_closes 82 = .ok (.aload_n 0, 1) := by decide +kernel
theorem dX2_closes_83 : decode cX2_closes 83 = .ok (.dup, 1) := by decide +kernel
theorem dX2_closes_84 : decode cX2_closes 84 = .ok (.getfield 25, 3) := by decide +kernel
theorem dX2_closes_87 : decode cX2_closes 87 = .ok (.iconst 1, 1) := by decide +kernel
theorem dX2_closes_88 : decode cX2_closes 88 = .ok (.isub, 1) := by decide +kernel
theorem dX2_closes_89 : decode cX2_closes 89 = .ok (.putfield 25, 3) := by decide +kernel
theorem dX2_closes_92 : decode cX2_closes 92 = .ok (.iconst 1, 1) := by decide +kernel
theorem dX2_closes_93 : decode cX2_closes 93 = .ok (.ireturn, 1) := by decide +kernel
theorem dX2_closer_0 : decode cX2_closer 0 = .ok (.iload_n 0, 1) := by decide +kernel
theorem dX2_closer_1 : decode cX2_closer 1 = .ok (.lookupswitch 44 #[(91, 35), (123, 38), (124, 41)], 35) := by decide +kernel
theorem dX2_closer_36 : decode cX2_closer 36 = .ok (.bipush 93, 2) := by decide +kernel
theorem dX2_closer_38 : decode cX2_closer 38 = .ok (.ireturn, 1) := by decide +kernel
theorem dX2_closer_39 : decode cX2_closer 39 = .ok (.bipush 125, 2) := by decide +kernel
theorem dX2_closer_41 : decode cX2_closer 41 = .ok (.ireturn, 1) := by decide +kernel
theorem dX2_closer_42 : decode cX2_closer 42 = .ok (.bipush 41, 2) := by decide +kernel
theorem dX2_closer_44 : decode cX2_closer 44 = .ok (.ireturn, 1) := by decide +kernel
theorem dX2_closer_45 : decode cX2_closer 45 = .ok (.iconst (-1), 1) := by decide +kernel
theorem dX2_closer_46 : decode cX2_closer 46 = .ok (.ireturn, 1) := by decide +kernel
theorem dX2_untold_0 : decode cX2_untold 0 = .ok (.iconst 2, 1) := by decide +kernel
theorem dX2_untold_1 : decode cX2_untold 1 = .ok (.istore_n 2, 1) := by decide +kernel
theorem dX2_untold_2 : decode cX2_untold 2 = .ok (.iload_n 2, 1) := by decide +kernel
theorem dX2_untold_3 : decode cX2_untold 3 = .ok (.aload_n 0, 1) := by decide +kernel
theorem dX2_untold_4 : decode cX2_untold 4 = .ok (.getfield 15, 3) := by decide +kernel
theorem dX2_untold_7 : decode cX2_untold 7 = .ok (.if_icmp .ge 46, 3) := by decide +kernel
theorem dX2_untold_10 : decode cX2_untold 10 = .ok (.aload_n 0, 1) := by decide +kernel
theorem dX2_untold_11 : decode cX2_untold 11 = .ok (.getfield 9, 3) := by decide +kernel
theorem dX2_untold_14 : decode cX2_untold 14 = .ok (.iload_n 2, 1) := by decide +kernel
theorem dX2_untold_15 : decode cX2_untold 15 = .ok (.iaload, 1) := by decide +kernel
theorem dX2_untold_16 : decode cX2_untold 16 = .ok (.invokestatic 77, 3) := by decide +kernel
theorem dX2_untold_19 : decode cX2_untold 19 = .ok (.ifCond .eq 28, 3) := by decide +kernel
theorem dX2_untold_22 : decode cX2_untold 22 = .ok (.aload_n 0, 1) := by decide +kernel
theorem dX2_untold_23 : decode cX2_untold 23 = .ok (.getfield 9, 3) := by decide +kernel
theorem dX2_untold_26 : decode cX2_untold 26 = .ok (.iload_n 2, 1) := by decide +kernel
theorem dX2_untold_27 : decode cX2_untold 27 = .ok (.iaload, 1) := by decide +kernel
theorem dX2_untold_28 : decode cX2_untold 28 = .ok (.bipush 65, 2) := by decide +kernel
theorem dX2_untold_30 : decode cX2_untold 30 = .ok (.isub, 1) := by decide +kernel
theorem dX2_untold_31 : decode cX2_untold 31 = .ok (.istore_n 3, 1) := by decide +kernel
theorem dX2_untold_32 : decode cX2_untold 32 = .ok (.iload_n 3, 1) := by decide +kernel
theorem dX2_untold_33 : decode cX2_untold 33 = .ok (.iload_n 1, 1) := by decide +kernel
theorem dX2_untold_34 : decode cX2_untold 34 = .ok (.if_icmp .eq 11, 3) := by decide +kernel
theorem dX2_untold_37 : decode cX2_untold 37 = .ok (.aload_n 0, 1) := by decide +kernel
theorem dX2_untold_38 : decode cX2_untold 38 = .ok (.iload_n 3, 1) := by decide +kernel
theorem dX2_untold_39 : decode cX2_untold 39 = .ok (.invokevirtual 93, 3) := by decide +kernel
theorem dX2_untold_42 : decode cX2_untold 42 = .ok (.ifCond .ne 5, 3) := by decide +kernel
theorem dX2_untold_45 : decode cX2_untold 45 = .ok (.iload_n 2, 1) := by decide +kernel
theorem dX2_untold_46 : decode cX2_untold 46 = .ok (.ireturn, 1) := by decide +kernel
theorem dX2_untold_47 : decode cX2_untold 47 = .ok (.iinc 2 1, 3) := by decide +kernel
theorem dX2_untold_50 : decode cX2_untold 50 = .ok (.goto (-48), 3) := by decide +kernel
theorem dX2_untold_53 : decode cX2_untold 53 = .ok (.iconst (-1), 1) := by decide +kernel
theorem dX2_untold_54 : decode cX2_untold 54 = .ok (.ireturn, 1) := by decide +kernel
theorem dX2_standsInAnother_0 : decode cX2_standsInAnother 0 = .ok (.iconst 0, 1) := by decide +kernel
theorem dX2_standsInAnother_1 : decode cX2_standsInAnother 1 = .ok (.istore_n 2, 1) := by decide +kernel
theorem dX2_standsInAnother_2 : decode cX2_standsInAnother 2 = .ok (.iload_n 2, 1) := by decide +kernel
theorem dX2_standsInAnother_3 : decode cX2_standsInAnother 3 = .ok (.bipush 8, 2) := by decide +kernel
theorem dX2_standsInAnother_5 : decode cX2_standsInAnother 5 = .ok (.if_icmp .ge 25, 3) := by decide +kernel
theorem dX2_standsInAnother_8 : decode cX2_standsInAnother 8 = .ok (.aload_n 0, 1) := by decide +kernel
theorem dX2_standsInAnother_9 : decode cX2_standsInAnother 9 = .ok (.getfield 41, 3) := by decide +kernel
theorem dX2_standsInAnother_12 : decode cX2_standsInAnother 12 = .ok (.iload_n 2, 1) := by decide +kernel
theorem dX2_standsInAnother_13 : decode cX2_standsInAnother 13 = .ok (.iaload, 1) := by decide +kernel
theorem dX2_standsInAnother_14 : decode cX2_standsInAnother 14 = .ok (.iload_n 1, 1) := by decide +kernel
theorem dX2_standsInAnother_15 : decode cX2_standsInAnother 15 = .ok (.ishr, 1) := by decide +kernel
theorem dX2_standsInAnother_16 : decode cX2_standsInAnother 16 = .ok (.iconst 1, 1) := by decide +kernel
theorem dX2_standsInAnother_17 : decode cX2_standsInAnother 17 = .ok (.iand, 1) := by decide +kernel
theorem dX2_standsInAnother_18 : decode cX2_standsInAnother 18 = .ok (.iconst 1, 1) := by decide +kernel
theorem dX2_standsInAnother_19 : decode cX2_standsInAnother 19 = .ok (.if_icmp .ne 5, 3) := by decide +kernel
theorem dX2_standsInAnother_22 : decode cX2_standsInAnother 22 = .ok (.iconst 1, 1) := by decide +kernel
theorem dX2_standsInAnother_23 : decode cX2_standsInAnother 23 = .ok (.ireturn, 1) := by decide +kernel
theorem dX2_standsInAnother_24 : decode cX2_standsInAnother 24 = .ok (.iinc 2 1, 3) := by decide +kernel
theorem dX2_standsInAnother_27 : decode cX2_standsInAnother 27 = .ok (.goto (-25), 3) := by decide +kernel
theorem dX2_standsInAnother_30 : decode cX2_standsInAnother 30 = .ok (.iconst 0, 1) := by decide +kernel
theorem dX2_standsInAnother_31 : decode cX2_standsInAnother 31 = .ok (.ireturn, 1) := by decide +kernel
theorem dX2_keep_0 : decode cX2_keep 0 = .ok (.aload_n 0, 1) := by decide +kernel
theorem dX2_keep_1 : decode cX2_keep 1 = .ok (.getfield 9, 3) := by decide +kernel
theorem dX2_keep_4 : decode cX2_keep 4 = .ok (.iconst 0, 1) := by decide +kernel
theorem dX2_keep_5 : decode cX2_keep 5 = .ok (.aload_n 0, 1) := by decide +kernel
theorem dX2_keep_6 : decode cX2_keep 6 = .ok (.getfield 32, 3) := by decide +kernel
theorem dX2_keep_9 : decode cX2_keep 9 = .ok (.iload_n 1, 1) := by decide +kernel
theorem dX2_keep_10 : decode cX2_keep 10 = .ok (.bipush 60, 2) := by decide +kernel
theorem dX2_keep_12 : decode cX2_keep 12 = .ok (.imul, 1) := by decide +kernel
theorem dX2_keep_13 : decode cX2_keep 13 = .ok (.aload_n 0, 1) := by decide +kernel
theorem dX2_keep_14 : decode cX2_keep 14 = .ok (.getfield 15, 3) := by decide +kernel
theorem dX2_keep_17 : decode cX2_keep 17 = .ok (.invokestatic 96, 3) := by decide +kernel
theorem dX2_keep_20 : decode cX2_keep 20 = .ok (.aload_n 0, 1) := by decide +kernel
theorem dX2_keep_21 : decode cX2_keep 21 = .ok (.getfield 19, 3) := by decide +kernel
theorem dX2_keep_24 : decode cX2_keep 24 = .ok (.iconst 0, 1) := by decide +kernel
theorem dX2_keep_25 : decode cX2_keep 25 = .ok (.aload_n 0, 1) := by decide +kernel
theorem dX2_keep_26 : decode cX2_keep 26 = .ok (.getfield 35, 3) := by decide +kernel
theorem dX2_keep_29 : decode cX2_keep 29 = .ok (.iload_n 1, 1) := by decide +kernel
theorem dX2_keep_30 : decode cX2_keep 30 = .ok (.bipush 60, 2) := by decide +kernel
theorem dX2_keep_32 : decode cX2_keep 32 = .ok (.imul, 1) := by decide +kernel
theorem dX2_keep_33 : decode cX2_keep 33 = .ok (.aload_n 0, 1) := by decide +kernel
theorem dX2_keep_34 : decode cX2_keep 34 = .ok (.getfield 15, 3) := by decide +kernel
theorem dX2_keep_37 : decode cX2_keep 37 = .ok (.invokestatic 96, 3) := by decide +kernel
theorem dX2_keep_40 : decode cX2_keep 40 = .ok (.aload_n 0, 1) := by decide +kernel
theorem dX2_keep_41 : decode cX2_keep 41 = .ok (.getfield 38, 3) := by decide +kernel
theorem dX2_keep_44 : decode cX2_keep 44 = .ok (.iload_n 1, 1) := by decide +kernel
theorem dX2_keep_45 : decode cX2_keep 45 = .ok (.aload_n 0, 1) := by decide +kernel
theorem dX2_keep_46 : decode cX2_keep 46 = .ok (.getfield 15, 3) := by decide +kernel
theorem dX2_keep_49 : decode cX2_keep 49 = .ok (.iastore, 1) := by decide +kernel
theorem dX2_keep_50 : decode cX2_keep 50 = .ok (.aload_n 0, 1) := by decide +kernel
theorem dX2_keep_51 : decode cX2_keep 51 = .ok (.getfield 41, 3) := by decide +kernel
theorem dX2_keep_54 : decode cX2_keep 54 = .ok (.iload_n 1, 1) := by decide +kernel
theorem dX2_keep_55 : decode cX2_keep 55 = .ok (.iconst 0, 1) := by decide +kernel
theorem dX2_keep_56 : decode cX2_keep 56 = .ok (.iastore, 1) := by decide +kernel
theorem dX2_keep_57 : decode cX2_keep 57 = .ok (.iconst 2, 1) := by decide +kernel
theorem dX2_keep_58 : decode cX2_keep 58 = .ok (.istore_n 2, 1) := by decide +kernel
theorem dX2_keep_59 : decode cX2_keep 59 = .ok (.iload_n 2, 1) := by decide +kernel
theorem dX2_keep_60 : decode cX2_keep 60 = .ok (.aload_n 0, 1) := by decide +kernel
theorem dX2_keep_61 : decode cX2_keep 61 = .ok (.getfield 15, 3) := by decide +kernel
theorem dX2_keep_64 : decode cX2_keep 64 = .ok (.if_icmp .ge 41, 3) := by decide +kernel
theorem dX2_keep_67 : decode cX2_keep 67 = .ok (.aload_n 0, 1) := by decide +kernel
theorem dX2_keep_68 : decode cX2_keep 68 = .ok (.getfield 9, 3) := by decide +kernel
theorem dX2_keep_71 : decode cX2_keep 71 = .ok (.iload_n 2, 1) := by decide +kernel
theorem dX2_keep_72 : decode cX2_keep 72 = .ok (.iaload, 1) := by decide +kernel
theorem dX2_keep_73 : decode cX2_keep 73 = .ok (.invokestatic 77, 3) := by decide +kernel
theorem dX2_keep_76 : decode cX2_keep 76 = .ok (.ifCond .eq 23, 3) := by decide +kernel
theorem dX2_keep_79 : decode cX2_keep 79 = .ok (.aload_n 0, 1) := by decide +kernel
theorem dX2_keep_80 : decode cX2_keep 80 = .ok (.getfield 41, 3) := by decide +kernel
theorem dX2_keep_83 : decode cX2_keep 83 = .ok (.iload_n 1, 1) := by decide +kernel
theorem dX2_keep_84 : decode cX2_keep 84 = .ok (.dup2, 1) := by decide +kernel
theorem dX2_keep_85 : decode cX2_keep 85 = .ok (.iaload, 1) := by decide +kernel
theorem dX2_keep_86 : decode cX2_keep 86 = .ok (.iconst 1, 1) := by decide +kernel
theorem dX2_keep_87 : decode cX2_keep 87 = .ok (.aload_n 0, 1) := by decide +kernel
theorem dX2_keep_88 : decode cX2_keep 88 = .ok (.getfield 9, 3) := by decide +kernel
theorem dX2_keep_91 : decode cX2_keep 91 = .ok (.iload_n 2, 1) := by decide +kernel
theorem dX2_keep_92 : decode cX2_keep 92 = .ok (.iaload, 1) := by decide +kernel
theorem dX2_keep_93 : decode cX2_keep 93 = .ok (.bipush 65, 2) := by decide +kernel
theorem dX2_keep_95 : decode cX2_keep 95 = .ok (.isub, 1) := by decide +kernel
theorem dX2_keep_96 : decode cX2_keep 96 = .ok (.ishl, 1) := by decide +kernel
theorem dX2_keep_97 : decode cX2_keep 97 = .ok (.ior, 1) := by decide +kernel
theorem dX2_keep_98 : decode cX2_keep 98 = .ok (.iastore, 1) := by decide +kernel
theorem dX2_keep_99 : decode cX2_keep 99 = .ok (.iinc 2 1, 3) := by decide +kernel
theorem dX2_keep_102 : decode cX2_keep 102 = .ok (.goto (-43), 3) := by decide +kernel
theorem dX2_keep_105 : decode cX2_keep 105 = .ok (.aload_n 0, 1) := by decide +kernel
theorem dX2_keep_106 : decode cX2_keep 106 = .ok (.iload_n 1, 1) := by decide +kernel
theorem dX2_keep_107 : decode cX2_keep 107 = .ok (.invokevirtual 102, 3) := by decide +kernel
theorem dX2_keep_110 : decode cX2_keep 110 = .ok (.return_, 1) := by decide +kernel
theorem dX2_putLast_0 : decode cX2_putLast 0 = .ok (.iconst 0, 1) := by decide +kernel
theorem dX2_putLast_1 : decode cX2_putLast 1 = .ok (.istore_n 2, 1) := by decide +kernel
theorem dX2_putLast_2 : decode cX2_putLast 2 = .ok (.iconst 0, 1) := by decide +kernel
theorem dX2_putLast_3 : decode cX2_putLast 3 = .ok (.istore_n 3, 1) := by decide +kernel
theorem dX2_putLast_4 : decode cX2_putLast 4 = .ok (.iload_n 3, 1) := by decide +kernel
theorem dX2_putLast_5 : decode cX2_putLast 5 = .ok (.aload_n 0, 1) := by decide +kernel
theorem dX2_putLast_6 : decode cX2_putLast 6 = .ok (.getfield 47, 3) := by decide +kernel
theorem dX2_putLast_9 : decode cX2_putLast 9 = .ok (.if_icmp .ge 34, 3) := by decide +kernel
theorem dX2_putLast_12 : decode cX2_putLast 12 = .ok (.aload_n 0, 1) := by decide +kernel
theorem dX2_putLast_13 : decode cX2_putLast 13 = .ok (.getfield 44, 3) := by decide +kernel
theorem dX2_putLast_16 : decode cX2_putLast 16 = .ok (.iload_n 3, 1) := by decide +kernel
theorem dX2_putLast_17 : decode cX2_putLast 17 = .ok (.iaload, 1) := by decide +kernel
theorem dX2_putLast_18 : decode cX2_putLast 18 = .ok (.iload_n 1, 1) := by decide +kernel
theorem dX2_putLast_19 : decode cX2_putLast 19 = .ok (.if_icmp .eq 18, 3) := by decide +kernel
theorem dX2_putLast_22 : decode cX2_putLast 22 = .ok (.aload_n 0, 1) := by decide +kernel
theorem dX2_putLast_23 : decode cX2_putLast 23 = .ok (.getfield 44, 3) := by decide +kernel
theorem dX2_putLast_26 : decode cX2_putLast 26 = .ok (.iload_n 2, 1) := by decide +kernel
theorem dX2_putLast_27 : decode cX2_putLast 27 = .ok (.aload_n 0, 1) := by decide +kernel
theorem dX2_putLast_28 : decode cX2_putLast 28 = .ok (.getfield 44, 3) := by decide +kernel
theorem dX2_putLast_31 : decode cX2_putLast 31 = .ok (.iload_n 3, 1) := by decide +kernel
theorem dX2_putLast_32 : decode cX2_putLast 32 = .ok (.iaload, 1) := by decide +kernel
theorem dX2_putLast_33 : decode cX2_putLast 33 = .ok (.iastore, 1) := by decide +kernel
theorem dX2_putLast_34 : decode cX2_putLast 34 = .ok (.iinc 2 1, 3) := by decide +kernel
theorem dX2_putLast_37 : decode cX2_putLast 37 = .ok (.iinc 3 1, 3) := by decide +kernel
theorem dX2_putLast_40 : decode cX2_putLast 40 = .ok (.goto (-36), 3) := by decide +kernel
theorem dX2_putLast_43 : decode cX2_putLast 43 = .ok (.iload_n 2, 1) := by decide +kernel
theorem dX2_putLast_44 : decode cX2_putLast 44 = .ok (.bipush 8, 2) := by decide +kernel
theorem dX2_putLast_46 : decode cX2_putLast 46 = .ok (.if_icmp .ge 17, 3) := by decide +kernel
theorem dX2_putLast_49 : decode cX2_putLast 49 = .ok (.aload_n 0, 1) := by decide +kernel
theorem dX2_putLast_50 : decode cX2_putLast 50 = .ok (.getfield 44, 3) := by decide +kernel
theorem dX2_putLast_53 : decode cX2_putLast 53 = .ok (.iload_n 2, 1) := by decide +kernel
theorem dX2_putLast_54 : decode cX2_putLast 54 = .ok (.iload_n 1, 1) := by decide +kernel
theorem dX2_putLast_55 : decode cX2_putLast 55 = .ok (.iastore, 1) := by decide +kernel
theorem dX2_putLast_56 : decode cX2_putLast 56 = .ok (.aload_n 0, 1) := by decide +kernel
theorem dX2_putLast_57 : decode cX2_putLast 57 = .ok (.iload_n 2, 1) := by decide +kernel
theorem dX2_putLast_58 : decode cX2_putLast 58 = .ok (.iconst 1, 1) := by decide +kernel
theorem dX2_putLast_59 : decode cX2_putLast 59 = .ok (.iadd, 1) := by decide +kernel
theorem dX2_putLast_60 : decode cX2_putLast 60 = .ok (.putfield 47, 3) := by decide +kernel
theorem dX2_putLast_63 : decode cX2_putLast 63 = .ok (.return_, 1) := by decide +kernel
theorem dX2_within_0 : decode cX2_within 0 = .ok (.iconst 1, 1) := by decide +kernel
theorem dX2_within_1 : decode cX2_within 1 = .ok (.iload_n 1, 1) := by decide +kernel
theorem dX2_within_2 : decode cX2_within 2 = .ok (.ishl, 1) := by decide +kernel
theorem dX2_within_3 : decode cX2_within 3 = .ok (.istore_n 2, 1) := by decide +kernel
theorem dX2_within_4 : decode cX2_within 4 = .ok (.aload_n 0, 1) := by decide +kernel
theorem dX2_within_5 : decode cX2_within 5 = .ok (.getfield 47, 3) := by decide +kernel
theorem dX2_within_8 : decode cX2_within 8 = .ok (.iconst 1, 1) := by decide +kernel
theorem dX2_within_9 : decode cX2_within 9 = .ok (.isub, 1) := by decide +kernel
theorem dX2_within_10 : decode cX2_within 10 = .ok (.istore_n 3, 1) := by decide +kernel
theorem dX2_within_11 : decode cX2_within 11 = .ok (.iload_n 3, 1) := by decide +kernel
theorem dX2_within_12 : decode cX2_within 12 = .ok (.ifCond .lt 37, 3) := by decide +kernel
theorem dX2_within_15 : decode cX2_within 15 = .ok (.iload_n 2, 1) := by decide +kernel
theorem dX2_within_16 : decode cX2_within 16 = .ok (.aload_n 0, 1) := by decide +kernel
theorem dX2_within_17 : decode cX2_within 17 = .ok (.getfield 44, 3) := by decide +kernel
theorem dX2_within_20 : decode cX2_within 20 = .ok (.iload_n 3, 1) := by decide +kernel
theorem dX2_within_21 : decode cX2_within 21 = .ok (.iaload, 1) := by decide +kernel
theorem dX2_within_22 : decode cX2_within 22 = .ok (.ishr, 1) := by decide +kernel
theorem dX2_within_23 : decode cX2_within 23 = .ok (.iconst 1, 1) := by decide +kernel
theorem dX2_within_24 : decode cX2_within 24 = .ok (.iand, 1) := by decide +kernel
theorem dX2_within_25 : decode cX2_within 25 = .ok (.iconst 1, 1) := by decide +kernel
theorem dX2_within_26 : decode cX2_within 26 = .ok (.if_icmp .ne 17, 3) := by decide +kernel
theorem dX2_within_29 : decode cX2_within 29 = .ok (.iload_n 2, 1) := by decide +kernel
theorem dX2_within_30 : decode cX2_within 30 = .ok (.aload_n 0, 1) := by decide +kernel
theorem dX2_within_31 : decode cX2_within 31 = .ok (.getfield 41, 3) := by decide +kernel
theorem dX2_within_34 : decode cX2_within 34 = .ok (.aload_n 0, 1) := by decide +kernel
theorem dX2_within_35 : decode cX2_within 35 = .ok (.getfield 44, 3) := by decide +kernel
theorem dX2_within_38 : decode cX2_within 38 = .ok (.iload_n 3, 1) := by decide +kernel
theorem dX2_within_39 : decode cX2_within 39 = .ok (.iaload, 1) := by decide +kernel
theorem dX2_within_40 : decode cX2_within 40 = .ok (.iaload, 1) := by decide +kernel
theorem dX2_within_41 : decode cX2_within 41 = .ok (.ior, 1) := by decide +kernel
theorem dX2_within_42 : decode cX2_within 42 = .ok (.istore_n 2, 1) := by decide +kernel
theorem dX2_within_43 : decode cX2_within 43 = .ok (.iinc 3 (-1), 3) := by decide +kernel
theorem dX2_within_46 : decode cX2_within 46 = .ok (.goto (-35), 3) := by decide +kernel
theorem dX2_within_49 : decode cX2_within 49 = .ok (.iload_n 2, 1) := by decide +kernel
theorem dX2_within_50 : decode cX2_within 50 = .ok (.ireturn, 1) := by decide +kernel
theorem dX3_init_0 : decode cX3_init 0 = .ok (.aload_n 0, 1) := by decide +kernel
theorem dX3_init_1 : decode cX3_init 1 = .ok (.invokespecial 3, 3) := by decide +kernel
theorem dX3_init_4 : decode cX3_init 4 = .ok (.aload_n 0, 1) := by decide +kernel
theorem dX3_init_5 : decode cX3_init 5 = .ok (.bipush 12, 2) := by decide +kernel
theorem dX3_init_7 : decode cX3_init 7 = .ok (.newarray .int, 2) := by decide +kernel
theorem dX3_init_9 : decode cX3_init 9 = .ok (.putfield 9, 3) := by decide +kernel
theorem dX3_init_12 : decode cX3_init 12 = .ok (.aload_n 0, 1) := by decide +kernel
theorem dX3_init_13 : decode cX3_init 13 = .ok (.bipush 12, 2) := by decide +kernel
theorem dX3_init_15 : decode cX3_init 15 = .ok (.newarray .int, 2) := by decide +kernel
theorem dX3_init_17 : decode cX3_init 17 = .ok (.putfield 15, 3) := by decide +kernel
theorem dX3_init_20 : decode cX3_init 20 = .ok (.aload_n 0, 1) := by decide +kernel
theorem dX3_init_21 : decode cX3_init 21 = .ok (.bipush 12, 2) := by decide +kernel
theorem dX3_init_23 : decode cX3_init 23 = .ok (.newarray .int, 2) := by decide +kernel
theorem dX3_init_25 : decode cX3_init 25 = .ok (.putfield 18, 3) := by decide +kernel
theorem dX3_init_28 : decode cX3_init 28 = .ok (.aload_n 0, 1) := by decide +kernel
theorem dX3_init_29 : decode cX3_init 29 = .ok (.bipush 12, 2) := by decide +kernel
theorem dX3_init_31 : decode cX3_init 31 = .ok (.newarray .int, 2) := by decide +kernel
theorem dX3_init_33 : decode cX3_init 33 = .ok (.putfield 21, 3) := by decide +kernel
theorem dX3_init_36 : decode cX3_init 36 = .ok (.aload_n 0, 1) := by decide +kernel
theorem dX3_init_37 : decode cX3_init 37 = .ok (.sipush 288, 3) := by decide +kernel
theorem dX3_init_40 : decode cX3_init 40 = .ok (.newarray .int, 2) := by decide +kernel
theorem dX3_init_42 : decode cX3_init 42 = .ok (.putfield 24, 3) := by decide +kernel
theorem dX3_init_45 : decode cX3_init 45 = .ok (.aload_n 0, 1) := by decide +kernel
theorem dX3_init_46 : decode cX3_init 46 = .ok (.iconst 0, 1) := by decide +kernel
theorem dX3_init_47 : decode cX3_init 47 = .ok (.putfield 27, 3) := by decide +kernel
theorem dX3_init_50 : decode cX3_init 50 = .ok (.return_, 1) := by decide +kernel
theorem dX3_isRecording_0 : decode cX3_isRecording 0 = .ok (.iload_n 1, 1) := by decide +kernel
theorem dX3_isRecording_1 : decode cX3_isRecording 1 = .ok (.ifCond .lt 15, 3) := by decide +kernel
theorem dX3_isRecording_4 : decode cX3_isRecording 4 = .ok (.iload_n 1, 1) := by decide +kernel
theorem dX3_isRecording_5 : decode cX3_isRecording 5 = .ok (.aload_n 0, 1) := by decide +kernel
theorem dX3_isRecording_6 : decode cX3_isRecording 6 = .ok (.getfield 27, 3) := by decide +kernel
theorem dX3_isRecording_9 : decode cX3_isRecording 9 = .ok (.if_icmp .ge 7, 3) := by decide +kernel
theorem dX3_isRecording_12 : decode cX3_isRecording 12 = .ok (.iconst 1, 1) := by decide +kernel
theorem dX3_isRecording_13 : decode cX3_isRecording 13 = .ok (.goto 4, 3) := by decide +kernel
theorem dX3_isRecording_16 : decode cX3_isRecording 16 = .ok (.iconst 0, 1) := by decide +kernel
theorem dX3_isRecording_17 : decode cX3_isRecording 17 = .ok (.ireturn, 1) := by decide +kernel
theorem dX3_addRecording_0 : decode cX3_addRecording 0 = .ok (.aload_n 0, 1) := by decide +kernel
theorem dX3_addRecording_1 : decode cX3_addRecording 1 = .ok (.getfield 9, 3) := by decide +kernel
theorem dX3_addRecording_4 : decode cX3_addRecording 4 = .ok (.aload_n 0, 1) := by decide +kernel
theorem dX3_addRecording_5 : decode cX3_addRecording 5 = .ok (.getfield 27, 3) := by decide +kernel
theorem dX3_addRecording_8 : decode cX3_addRecording 8 = .ok (.iload_n 1, 1) := by decide +kernel
theorem dX3_addRecording_9 : decode cX3_addRecording 9 = .ok (.iastore, 1) := by decide +kernel
theorem dX3_addRecording_10 : decode cX3_addRecording 10 = .ok (.aload_n 0, 1) := by decide +kernel
theorem dX3_addRecording_11 : decode cX3_addRecording 11 = .ok (.getfield 15, 3) := by decide +kernel
theorem dX3_addRecording_14 : decode cX3_addRecording 14 = .ok (.aload_n 0, 1) := by decide +kernel
theorem dX3_addRecording_15 : decode cX3_addRecording 15 = .ok (.getfield 27, 3) := by decide +kernel
theorem dX3_addRecording_18 : decode cX3_addRecording 18 = .ok (.iload_n 2, 1) := by decide +kernel
theorem dX3_addRecording_19 : decode cX3_addRecording 19 = .ok (.iastore, 1) := by decide +kernel
theorem dX3_addRecording_20 : decode cX3_addRecording 20 = .ok (.aload_n 0, 1) := by decide +kernel
theorem dX3_addRecording_21 : decode cX3_addRecording 21 = .ok (.getfield 18, 3) := by decide +kernel
theorem dX3_addRecording_24 : decode cX3_addRecording 24 = .ok (.aload_n 0, 1) := by decide +kernel
theorem dX3_addRecording_25 : decode cX3_addRecording 25 = .ok (.getfield 27, 3) := by decide +kernel
theorem dX3_addRecording_28 : decode cX3_addRecording 28 = .ok (.iload_n 3, 1) := by decide +kernel
theorem dX3_addRecording_29 : decode cX3_addRecording 29 = .ok (.iastore, 1) := by decide +kernel
theorem dX3_addRecording_30 : decode cX3_addRecording 30 = .ok (.aload_n 0, 1) := by decide +kernel
theorem dX3_addRecording_31 : decode cX3_addRecording 31 = .ok (.getfield 21, 3) := by decide +kernel
theorem dX3_addRecording_34 : decode cX3_addRecording 34 = .ok (.aload_n 0, 1) := by decide +kernel
theorem dX3_addRecording_35 : decode cX3_addRecording 35 = .ok (.getfield 27, 3) := by decide +kernel
theorem dX3_addRecording_38 : decode cX3_addRecording 38 = .ok (.iload 5, 2) := by decide +kernel
theorem dX3_addRecording_40 : decode cX3_addRecording 40 = .ok (.iastore, 1) := by decide +kernel
theorem dX3_addRecording_41 : decode cX3_addRecording 41 = .ok (.aload 4, 2) := by decide +kernel
theorem dX3_addRecording_43 : decode cX3_addRecording 43 = .ok (.iconst 0, 1) := by decide +kernel
theorem dX3_addRecording_44 : decode cX3_addRecording 44 = .ok (.aload_n 0, 1) := by decide +kernel
theorem dX3_addRecording_45 : decode cX3_addRecording 45 = .ok (.getfield 24, 3) := by decide +kernel
theorem dX3_addRecording_48 : decode cX3_addRecording 48 = .ok (.aload_n 0, 1) := by decide +kernel
theorem dX3_addRecording_49 : decode cX3_addRecording 49 = .ok (.getfield 27, 3) := by decide +kernel
theorem dX3_addRecording_52 : decode cX3_addRecording 52 = .ok (.bipush 24, 2) := by decide +kernel
theorem dX3_addRecording_54 : decode cX3_addRecording 54 = .ok (.imul, 1) := by decide +kernel
theorem dX3_addRecording_55 : decode cX3_addRecording 55 = .ok (.iload 5, 2) := by decide +kernel
theorem dX3_addRecording_57 : decode cX3_addRecording 57 = .ok (.invokestatic 31, 3) := by decide +kernel
theorem dX3_addRecording_60 : decode cX3_addRecording 60 = .ok (.aload_n 0, 1) := by decide +kernel
theorem dX3_addRecording_61 : decode cX3_addRecording 61 = .ok (.dup, 1) := by decide +kernel
theorem dX3_addRecording_62 : decode cX3_addRecording 62 = .ok (.getfield 27, 3) := by decide +kernel
theorem dX3_addRecording_65 : decode cX3_addRecording 65 = .ok (.iconst 1, 1) := by decide +kernel
theorem dX3_addRecording_66 : decode cX3_addRecording 66 = .ok (.iadd, 1) := by decide +kernel
theorem dX3_addRecording_67 : decode cX3_addRecording 67 = .ok (.putfield 27, 3) := by decide +kernel
theorem dX3_addRecording_70 : decode cX3_addRecording 70 = .ok (.aload_n 0, 1) := by decide +kernel
theorem dX3_addRecording_71 : decode cX3_addRecording 71 = .ok (.getfield 27, 3) := by decide +kernel
theorem dX3_addRecording_74 : decode cX3_addRecording 74 = .ok (.iconst 1, 1) := by decide +kernel
theorem dX3_addRecording_75 : decode cX3_addRecording 75 = .ok (.isub, 1) := by decide +kernel
theorem dX3_addRecording_76 : decode cX3_addRecording 76 = .ok (.ireturn, 1) := by decide +kernel
theorem dX3_isLost_0 : decode cX3_isLost 0 = .ok (.iload_n 2, 1) := by decide +kernel
theorem dX3_isLost_1 : decode cX3_isLost 1 = .ok (.ifCond .lt 33, 3) := by decide +kernel
theorem dX3_isLost_4 : decode cX3_isLost 4 = .ok (.iload_n 2, 1) := by decide +kernel
theorem dX3_isLost_5 : decode cX3_isLost 5 = .ok (.aload_n 0, 1) := by decide +kernel
theorem dX3_isLost_6 : decode cX3_isLost 6 = .ok (.getfield 21, 3) := by decide +kernel
theorem dX3_isLost_9 : decode cX3_isLost 9 = .ok (.iload_n 1, 1) := by decide +kernel
theorem dX3_isLost_10 : decode cX3_isLost 10 = .ok (.iaload, 1) := by decide +kernel
theorem dX3_isLost_11 : decode cX3_isLost 11 = .ok (.if_icmp .ge 23, 3) := by decide +kernel
theorem dX3_isLost_14 : decode cX3_isLost 14 = .ok (.aload_n 0, 1) := by decide +kernel
theorem dX3_isLost_15 : decode cX3_isLost 15 = .ok (.getfield 24, 3) := by decide +kernel
theorem dX3_isLost_18 : decode cX3_isLost 18 = .ok (.iload_n 1, 1) := by decide +kernel
theorem dX3_isLost_19 : decode cX3_isLost 19 = .ok (.bipush 24, 2) := by decide +kernel
theorem dX3_isLost_21 : decode cX3_isLost 21 = .ok (.imul, 1) := by decide +kernel
theorem dX3_isLost_22 : decode cX3_isLost 22 = .ok (.iload_n 2, 1) := by decide +kernel
theorem dX3_isLost_23 : decode cX3_isLost 23 = .ok (.iadd, 1) := by decide +kernel
theorem dX3_isLost_24 : decode cX3_isLost 24 = .ok (.iaload, 1) := by decide +kernel
theorem dX3_isLost_25 : decode cX3_isLost 25 = .ok (.bipush 40, 2) := by decide +kernel
theorem dX3_isLost_27 : decode cX3_isLost 27 = .ok (.if_icmp .ne 7, 3) := by decide +kernel
theorem dX3_isLost_30 : decode cX3_isLost 30 = .ok (.iconst 1, 1) := by decide +kernel
theorem dX3_isLost_31 : decode cX3_isLost 31 = .ok (.goto 4, 3) := by decide +kernel
theorem dX3_isLost_34 : decode cX3_isLost 34 = .ok (.iconst 0, 1) := by decide +kernel
theorem dX3_isLost_35 : decode cX3_isLost 35 = .ok (.ireturn, 1) := by decide +kernel
theorem dX3_lostPlaces_0 : decode cX3_lostPlaces 0 = .ok (.iconst 0, 1) := by decide +kernel
theorem dX3_lostPlaces_1 : decode cX3_lostPlaces 1 = .ok (.istore_n 2, 1) := by decide +kernel
theorem dX3_lostPlaces_2 : decode cX3_lostPlaces 2 = .ok (.iconst 0, 1) := by decide +kernel
theorem dX3_lostPlaces_3 : decode cX3_lostPlaces 3 = .ok (.istore_n 3, 1) := by decide +kernel
theorem dX3_lostPlaces_4 : decode cX3_lostPlaces 4 = .ok (.iload_n 3, 1) := by decide +kernel
theorem dX3_lostPlaces_5 : decode cX3_lostPlaces 5 = .ok (.aload_n 0, 1) := by decide +kernel
theorem dX3_lostPlaces_6 : decode cX3_lostPlaces 6 = .ok (.getfield 21, 3) := by decide +kernel
theorem dX3_lostPlaces_9 : decode cX3_lostPlaces 9 = .ok (.iload_n 1, 1) := by decide +kernel
theorem dX3_lostPlaces_10 : decode cX3_lostPlaces 10 = .ok (.iaload, 1) := by decide +kernel
theorem dX3_lostPlaces_11 : decode cX3_lostPlaces 11 = .ok (.if_icmp .ge 21, 3) := by decide +kernel
theorem dX3_lostPlaces_14 : decode cX3_lostPlaces 14 = .ok (.aload_n 0, 1) := by decide +kernel
theorem dX3_lostPlaces_15 : decode cX3_lostPlaces 15 = .ok (.iload_n 1, 1) := by decide +kernel
theorem dX3_lostPlaces_16 : decode cX3_lostPlaces 16 = .ok (.iload_n 3, 1) := by decide +kernel
theorem dX3_lostPlaces_17 : decode cX3_lostPlaces 17 = .ok (.invokevirtual 37, 3) := by decide +kernel
theorem dX3_lostPlaces_20 : decode cX3_lostPlaces 20 = .ok (.ifCond .eq 6, 3) := by decide +kernel
theorem dX3_lostPlaces_23 : decode cX3_lostPlaces 23 = .ok (.iinc 2 1, 3) := by decide +kernel
theorem dX3_lostPlaces_26 : decode cX3_lostPlaces 26 = .ok (.iinc 3 1, 3) := by decide +kernel
theorem dX3_lostPlaces_29 : decode cX3_lostPlaces 29 = .ok (.goto (-25), 3) := by decide +kernel
theorem dX3_lostPlaces_32 : decode cX3_lostPlaces 32 = .ok (.iload_n 2, 1) := by decide +kernel
theorem dX3_lostPlaces_33 : decode cX3_lostPlaces 33 = .ok (.ireturn, 1) := by decide +kernel
theorem dX3_lacking_0 : decode cX3_lacking 0 = .ok (.iconst 0, 1) := by decide +kernel
theorem dX3_lacking_1 : decode cX3_lacking 1 = .ok (.istore 4, 2) := by decide +kernel
theorem dX3_lacking_3 : decode cX3_lacking 3 = .ok (.iconst 0, 1) := by decide +kernel
theorem dX3_lacking_4 : decode cX3_lacking 4 = .ok (.istore 5, 2) := by decide +kernel
theorem dX3_lacking_6 : decode cX3_lacking 6 = .ok (.iload 5, 2) := by decide +kernel
theorem dX3_lacking_8 : decode cX3_lacking 8 = .ok (.aload_n 0, 1) := by decide +kernel
theorem dX3_lacking_9 : decode cX3_lacking 9 = .ok (.getfield 21, 3) := by decide +kernel
theorem dX3_lacking_12 : decode cX3_lacking 12 = .ok (.iload_n 1, 1) := by decide +kernel
theorem dX3_lacking_13 : decode cX3_lacking 13 = .ok (.iaload, 1) := by decide +kernel
theorem dX3_lacking_14 : decode cX3_lacking 14 = .ok (.if_icmp .ge 42, 3) := by decide +kernel
theorem dX3_lacking_17 : decode cX3_lacking 17 = .ok (.aload_n 0, 1) := by decide +kernel
theorem dX3_lacking_18 : decode cX3_lacking 18 = .ok (.getfield 24, 3) := by decide +kernel
theorem dX3_lacking_21 : decode cX3_lacking 21 = .ok (.iload_n 1, 1) := by decide +kernel
theorem dX3_lacking_22 : decode cX3_lacking 22 = .ok (.bipush 24, 2) := by decide +kernel
theorem dX3_lacking_24 : decode cX3_lacking 24 = .ok (.imul, 1) := by decide +kernel
theorem dX3_lacking_25 : decode cX3_lacking 25 = .ok (.iload 5, 2) := by decide +kernel
theorem dX3_lacking_27 : decode cX3_lacking 27 = .ok (.iadd, 1) := by decide +kernel
theorem dX3_lacking_28 : decode cX3_lacking 28 = .ok (.iaload, 1) := by decide +kernel
theorem dX3_lacking_29 : decode cX3_lacking 29 = .ok (.istore 6, 2) := by decide +kernel
theorem dX3_lacking_31 : decode cX3_lacking 31 = .ok (.iload 6, 2) := by decide +kernel
theorem dX3_lacking_33 : decode cX3_lacking 33 = .ok (.bipush 40, 2) := by decide +kernel
theorem dX3_lacking_35 : decode cX3_lacking 35 = .ok (.if_icmp .eq 15, 3) := by decide +kernel
theorem dX3_lacking_38 : decode cX3_lacking 38 = .ok (.lload_n 2, 1) := by decide +kernel
theorem dX3_lacking_39 : decode cX3_lacking 39 = .ok (.iload 6, 2) := by decide +kernel
theorem dX3_lacking_41 : decode cX3_lacking 41 = .ok (.invokestatic 41, 3) := by decide +kernel
theorem dX3_lacking_44 : decode cX3_lacking 44 = .ok (.ifCond .ne 6, 3) := by decide +kernel
theorem dX3_lacking_47 : decode cX3_lacking 47 = .ok (.iinc 4 1, 3) := by decide +kernel
theorem dX3_lacking_50 : decode cX3_lacking 50 = .ok (.iinc 5 1, 3) := by decide +kernel
theorem dX3_lacking_53 : decode cX3_lacking 53 = .ok (.goto (-47), 3) := by decide +kernel
theorem dX3_lacking_56 : decode cX3_lacking 56 = .ok (.iload 4, 2) := by decide +kernel
theorem dX3_lacking_58 : decode cX3_lacking 58 = .ok (.ireturn, 1) := by decide +kernel
theorem dX4_init_0 : decode cX4_init 0 = .ok (.aload_n 0, 1) := by decide +kernel
theorem dX4_init_1 : decode cX4_init 1 = .ok (.invokespecial 3, 3) := by decide +kernel
theorem dX4_init_4 : decode cX4_init 4 = .ok (.aload_n 0, 1) := by decide +kernel
theorem dX4_init_5 : decode cX4_init 5 = .ok (.bipush 40, 2) := by decide +kernel
theorem dX4_init_7 : decode cX4_init 7 = .ok (.newarray .int, 2) := by decide +kernel
theorem dX4_init_9 : decode cX4_init 9 = .ok (.putfield 9, 3) := by decide +kernel
theorem dX4_init_12 : decode cX4_init 12 = .ok (.aload_n 0, 1) := by decide +kernel
theorem dX4_init_13 : decode cX4_init 13 = .ok (.iconst 0, 1) := by decide +kernel
theorem dX4_init_14 : decode cX4_init 14 = .ok (.putfield 15, 3) := by decide +kernel
theorem dX4_init_17 : decode cX4_init 17 = .ok (.aload_n 0, 1) := by decide +kernel
theorem dX4_init_18 : decode cX4_init 18 = .ok (.bipush 40, 2) := by decide +kernel
theorem dX4_init_20 : decode cX4_init 20 = .ok (.newarray .int, 2) := by decide +kernel
theorem dX4_init_22 : decode cX4_init 22 = .ok (.putfield 19, 3) := by decide +kernel
theorem dX4_init_25 : decode cX4_init 25 = .ok (.aload_n 0, 1) := by decide +kernel
theorem dX4_init_26 : decode cX4_init 26 = .ok (.iconst 0, 1) := by decide +kernel
theorem dX4_init_27 : decode cX4_init 27 = .ok (.putfield 22, 3) := by decide +kernel
theorem dX4_init_30 : decode cX4_init 30 = .ok (.aload_n 0, 1) := by decide +kernel
theorem dX4_init_31 : decode cX4_init 31 = .ok (.sipush 256, 3) := by decide +kernel
theorem dX4_init_34 : decode cX4_init 34 = .ok (.newarray .int, 2) := by decide +kernel
theorem dX4_init_36 : decode cX4_init 36 = .ok (.putfield 25, 3) := by decide +kernel
theorem dX4_init_39 : decode cX4_init 39 = .ok (.aload_n 0, 1) := by decide +kernel
theorem dX4_init_40 : decode cX4_init 40 = .ok (.iconst 0, 1) := by decide +kernel
theorem dX4_init_41 : decode cX4_init 41 = .ok (.putfield 28, 3) := by decide +kernel
theorem dX4_init_44 : decode cX4_init 44 = .ok (.aload_n 0, 1) := by decide +kernel
theorem dX4_init_45 : decode cX4_init 45 = .ok (.iconst 0, 1) := by decide +kernel
theorem dX4_init_46 : decode cX4_init 46 = .ok (.putfield 31, 3) := by decide +kernel
theorem dX4_init_49 : decode cX4_init 49 = .ok (.aload_n 0, 1) := by decide +kernel
theorem dX4_init_50 : decode cX4_init 50 = .ok (.iconst 0, 1) := by decide +kernel
theorem dX4_init_51 : decode cX4_init 51 = .ok (.putfield 34, 3) := by decide +kernel
theorem dX4_init_54 : decode cX4_init 54 = .ok (.aload_n 0, 1) := by decide +kernel
theorem dX4_init_55 : decode cX4_init 55 = .ok (.iconst 0, 1) := by decide +kernel
theorem dX4_init_56 : decode cX4_init 56 = .ok (.putfield 37, 3) := by decide +kernel
theorem dX4_init_59 : decode cX4_init 59 = .ok (.aload_n 0, 1) := by decide +kernel
theorem dX4_init_60 : decode cX4_init 60 = .ok (.lconst 0, 1) := by decide +kernel
theorem dX4_init_61 : decode cX4_init 61 = .ok (.putfield 40, 3) := by decide +kernel
theorem dX4_init_64 : decode cX4_init 64 = .ok (.aload_n 0, 1) := by decide +kernel
theorem dX4_init_65 : decode cX4_init 65 = .ok (.lconst 0, 1) := by decide +kernel
theorem dX4_init_66 : decode cX4_init 66 = .ok (.putfield 44, 3) := by decide +kernel
theorem dX4_init_69 : decode cX4_init 69 = .ok (.aload_n 0, 1) := by decide +kernel
theorem dX4_init_70 : decode cX4_init 70 = .ok (.aload_n 1, 1) := by decide +kernel
theorem dX4_init_71 : decode cX4_init 71 = .ok (.putfield 47, 3) := by decide +kernel
theorem dX4_init_74 : decode cX4_init 74 = .ok (.aload_n 0, 1) := by decide +kernel
theorem dX4_init_75 : decode cX4_init 75 = .ok (.aload_n 2, 1) := by decide +kernel
theorem dX4_init_76 : decode cX4_init 76 = .ok (.putfield 51, 3) := by decide +kernel
theorem dX4_init_79 : decode cX4_init 79 = .ok (.return_, 1) := by decide +kernel
theorem dX4_perform_0 : decode cX4_perform 0 = .ok (.aload_n 0, 1) := by decide +kernel
theorem dX4_perform_1 : decode cX4_perform 1 = .ok (.lload_n 2, 1) := by decide +kernel
theorem dX4_perform_2 : decode cX4_perform 2 = .ok (.putfield 40, 3) := by decide +kernel
theorem dX4_perform_5 : decode cX4_perform 5 = .ok (.aload_n 0, 1) := by decide +kernel
theorem dX4_perform_6 : decode cX4_perform 6 = .ok (.lload 4, 2) := by decide +kernel
theorem dX4_perform_8 : decode cX4_perform 8 = .ok (.putfield 44, 3) := by decide +kernel
theorem dX4_perform_11 : decode cX4_perform 11 = .ok (.aload_n 0, 1) := by decide +kernel
theorem dX4_perform_12 : decode cX4_perform 12 = .ok (.iconst 0, 1) := by decide +kernel
theorem dX4_perform_13 : decode cX4_perform 13 = .ok (.putfield 22, 3) := by decide +kernel
theorem dX4_perform_16 : decode cX4_perform 16 = .ok (.aload_n 0, 1) := by decide +kernel
theorem dX4_perform_17 : decode cX4_perform 17 = .ok (.iconst 0, 1) := by decide +kernel
theorem dX4_perform_18 : decode cX4_perform 18 = .ok (.putfield 28, 3) := by decide +kernel
theorem dX4_perform_21 : decode cX4_perform 21 = .ok (.aload_n 0, 1) := by decide +kernel
theorem dX4_perform_22 : decode cX4_perform 22 = .ok (.iconst 0, 1) := by decide +kernel
theorem dX4_perform_23 : decode cX4_perform 23 = .ok (.putfield 37, 3) := by decide +kernel
theorem dX4_perform_26 : decode cX4_perform 26 = .ok (.aload_n 0, 1) := by decide +kernel
theorem dX4_perform_27 : decode cX4_perform 27 = .ok (.iload_n 1, 1) := by decide +kernel
theorem dX4_perform_28 : decode cX4_perform 28 = .ok (.invokevirtual 55, 3) := by decide +kernel
theorem dX4_perform_31 : decode cX4_perform 31 = .ok (.iconst 0, 1) := by decide +kernel
theorem dX4_perform_32 : decode cX4_perform 32 = .ok (.istore 6, 2) := by decide +kernel
theorem dX4_perform_34 : decode cX4_perform 34 = .ok (.iload 6, 2) := by decide +kernel
theorem dX4_perform_36 : decode cX4_perform 36 = .ok (.ldc 59, 2) := by decide +kernel
theorem dX4_perform_38 : decode cX4_perform 38 = .ok (.if_icmp .ge 71, 3) := by decide +kernel
theorem dX4_perform_41 : decode cX4_perform 41 = .ok (.aload_n 0, 1) := by decide +kernel
theorem dX4_perform_42 : decode cX4_perform 42 = .ok (.getfield 34, 3) := by decide +kernel
theorem dX4_perform_45 : decode cX4_perform 45 = .ok (.aload_n 0, 1) := by decide +kernel
theorem dX4_perform_46 : decode cX4_perform 46 = .ok (.getfield 51, 3) := by decide +kernel
theorem dX4_perform_49 : decode cX4_perform 49 = .ok (.getfield 60, 3) := by decide +kernel
theorem dX4_perform_52 : decode cX4_perform 52 = .ok (.aload_n 0, 1) := by decide +kernel
theorem dX4_perform_53 : decode cX4_perform 53 = .ok (.getfield 31, 3) := by decide +kernel
theorem dX4_perform_56 : decode cX4_perform 56 = .ok (.iaload, 1) := by decide +kernel
theorem dX4_perform_57 : decode cX4_perform 57 = .ok (.if_icmp .lt 22, 3) := by decide +kernel
theorem dX4_perform_60 : decode cX4_perform 60 = .ok (.aload_n 0, 1) := by decide +kernel
theorem dX4_perform_61 : decode cX4_perform 61 = .ok (.getfield 28, 3) := by decide +kernel
theorem dX4_perform_64 : decode cX4_perform 64 = .ok (.ifCond .ne 8, 3) := by decide +kernel
theorem dX4_perform_67 : decode cX4_perform 67 = .ok (.aload_n 0, 1) := by decide +kernel
theorem dX4_perform_68 : decode cX4_perform 68 = .ok (.invokevirtual 65, 3) := by decide +kernel
theorem dX4_perform_71 : decode cX4_perform 71 = .ok (.ireturn, 1) := by decide +kernel
theorem dX4_perform_72 : decode cX4_perform 72 = .ok (.aload_n 0, 1) := by decide +kernel
theorem dX4_perform_73 : decode cX4_perform 73 = .ok (.invokevirtual 69, 3) := by decide +kernel
theorem dX4_perform_76 : decode cX4_perform 76 = .ok (.goto 27, 3) := by decide +kernel
theorem dX4_perform_79 : decode cX4_perform 79 = .ok (.aload_n 0, 1) := by decide +kernel
theorem dX4_perform_80 : decode cX4_perform 80 = .ok (.aload_n 0, 1) := by decide +kernel
theorem dX4_perform_81 : decode cX4_perform 81 = .ok (.getfield 51, 3) := by decide +kernel
theorem dX4_perform_84 : decode cX4_perform 84 = .ok (.aload_n 0, 1) := by decide +kernel
theorem dX4_perform_85 : decode cX4_perform 85 = .ok (.getfield 31, 3) := by decide +kernel
theorem dX4_perform_88 : decode cX4_perform 88 = .ok (.aload_n 0, 1) := by decide +kernel
theorem dX4_perform_89 : decode cX4_perform 89 = .ok (.getfield 34, 3) := by decide +kernel
theorem dX4_perform_92 : decode cX4_perform 92 = .ok (.invokevirtual 72, 3) := by decide +kernel
theorem dX4_perform_95 : decode cX4_perform 95 = .ok (.invokevirtual 76, 3) := by decide +kernel
theorem dX4_perform_98 : decode cX4_perform 98 = .ok (.ifCond .ne 5, 3) := by decide +kernel
theorem dX4_perform_101 : decode cX4_perform 101 = .ok (.iconst 0, 1) := by decide +kernel
theorem dX4_perform_102 : decode cX4_perform 102 = .ok (.ireturn, 1) := by decide +kernel
theorem dX4_perform_103 : decode cX4_perform 103 = .ok (.iinc 6 1, 3) := by decide +kernel
theorem dX4_perform_106 : decode cX4_perform 106 = .ok (.goto (-72), 3) := by decide +kernel
theorem dX4_perform_109 : decode cX4_perform 109 = .ok (.iconst 0, 1) := by decide +kernel
theorem dX4_perform_110 : decode cX4_perform 110 = .ok (.ireturn, 1) := by decide +kernel
theorem dX4_keepSong_0 : decode cX4_keepSong 0 = .ok (.aload_n 0, 1) := by decide +kernel
theorem dX4_keepSong_1 : decode cX4_keepSong 1 = .ok (.getfield 19, 3) := by decide +kernel
theorem dX4_keepSong_4 : decode cX4_keepSong 4 = .ok (.iconst 0, 1) := by decide +kernel
theorem dX4_keepSong_5 : decode cX4_keepSong 5 = .ok (.aload_n 0, 1) := by decide +kernel
theorem dX4_keepSong_6 : decode cX4_keepSong 6 = .ok (.getfield 9, 3) := by decide +kernel
theorem dX4_keepSong_9 : decode cX4_keepSong 9 = .ok (.iconst 0, 1) := by decide +kernel
theorem dX4_keepSong_10 : decode cX4_keepSong 10 = .ok (.aload_n 0, 1) := by decide +kernel
theorem dX4_keepSong_11 : decode cX4_keepSong 11 = .ok (.getfield 22, 3) := by decide +kernel
theorem dX4_keepSong_14 : decode cX4_keepSong 14 = .ok (.invokestatic 80, 3) := by decide +kernel
theorem dX4_keepSong_17 : decode cX4_keepSong 17 = .ok (.aload_n 0, 1) := by decide +kernel
theorem dX4_keepSong_18 : decode cX4_keepSong 18 = .ok (.aload_n 0, 1) := by decide +kernel
theorem dX4_keepSong_19 : decode cX4_keepSong 19 = .ok (.getfield 22, 3) := by decide +kernel
theorem dX4_keepSong_22 : decode cX4_keepSong 22 = .ok (.putfield 15, 3) := by decide +kernel
theorem dX4_keepSong_25 : decode cX4_keepSong 25 = .ok (.iconst 1, 1) := by decide +kernel
theorem dX4_keepSong_26 : decode cX4_keepSong 26 = .ok (.ireturn, 1) := by decide +kernel
theorem dX4_enterScene_0 : decode cX4_enterScene 0 = .ok (.aload_n 0, 1) := by decide +kernel
theorem dX4_enterScene_1 : decode cX4_enterScene 1 = .ok (.iload_n 1, 1) := by decide +kernel
theorem dX4_enterScene_2 : decode cX4_enterScene 2 = .ok (.putfield 31, 3) := by decide +kernel
theorem dX4_enterScene_5 : decode cX4_enterScene 5 = .ok (.aload_n 0, 1) := by decide +kernel
theorem dX4_enterScene_6 : decode cX4_enterScene 6 = .ok (.iconst 2, 1) := by decide +kernel
theorem dX4_enterScene_7 : decode cX4_enterScene 7 = .ok (.putfield 34, 3) := by decide +kernel
theorem dX4_enterScene_10 : decode cX4_enterScene 10 = .ok (.return_, 1) := by decide +kernel
theorem dX4_goBack_0 : decode cX4_goBack 0 = .ok (.aload_n 0, 1) := by decide +kernel
theorem dX4_goBack_1 : decode cX4_goBack 1 = .ok (.dup, 1) := by decide +kernel
theorem dX4_goBack_2 : decode cX4_goBack 2 = .ok (.getfield 28, 3) := by decide +kernel
theorem dX4_goBack_5 : decode cX4_goBack 5 = .ok (.iconst 1, 1) := by decide +kernel
theorem dX4_goBack_6 : decode cX4_goBack 6 = .ok (.isub, 1) := by decide +kernel
theorem dX4_goBack_7 : decode cX4_goBack 7 = .ok (.putfield 28, 3) := by decide +kernel
theorem dX4_goBack_10 : decode cX4_goBack 10 = .ok (.aload_n 0, 1) := by decide +kernel
theorem dX4_goBack_11 : decode cX4_goBack 11 = .ok (.aload_n 0, 1) := by decide +kernel
theorem dX4_goBack_12 : decode cX4_goBack 12 = .ok (.getfield 25, 3) := by decide +kernel
theorem dX4_goBack_15 : decode cX4_goBack 15 = .ok (.aload_n 0, 1) := by decide +kernel
theorem dX4_goBack_16 : decode cX4_goBack 16 = .ok (.getfield 28, 3) := by decide +kernel
theorem dX4_goBack_19 : decode cX4_goBack 19 = .ok (.iaload, 1) := by decide +kernel
theorem dX4_goBack_20 : decode cX4_goBack 20 = .ok (.bipush 60, 2) := by decide +kernel
theorem dX4_goBack_22 : decode cX4_goBack 22 = .ok (.idiv, 1) := by decide +kernel
theorem dX4_goBack_23 : decode cX4_goBack 23 = .ok (.putfield 31, 3) := by decide +kernel
theorem dX4_goBack_26 : decode cX4_goBack 26 = .ok (.aload_n 0, 1) := by decide +kernel
theorem dX4_goBack_27 : decode cX4_goBack 27 = .ok (.aload_n 0, 1) := by decide +kernel
theorem dX4_goBack_28 : decode cX4_goBack 28 = .ok (.getfield 25, 3) := by decide +kernel
theorem dX4_goBack_31 : decode cX4_goBack 31 = .ok (.aload_n 0, 1) := by decide +kernel
theorem dX4_goBack_32 : decode cX4_goBack 32 = .ok (.getfield 28, 3) := by decide +kernel
theorem dX4_goBack_35 : decode cX4_goBack 35 = .ok (.iaload, 1) := by decide +kernel
theorem dX4_goBack_36 : decode cX4_goBack 36 = .ok (.bipush 60, 2) := by decide +kernel
theorem dX4_goBack_38 : decode cX4_goBack 38 = .ok (.irem, 1) := by decide +kernel
theorem dX4_goBack_39 : decode cX4_goBack 39 = .ok (.iconst 1, 1) := by decide +kernel
theorem dX4_goBack_40 : decode cX4_goBack 40 = .ok (.iadd, 1) := by decide +kernel
theorem dX4_goBack_41 : decode cX4_goBack 41 = .ok (.putfield 34, 3) := by decide +kernel
theorem dX4_goBack_44 : decode cX4_goBack 44 = .ok (.return_, 1) := by decide +kernel
theorem dX4_await_0 : decode cX4_await 0 = .ok (.aload_n 0, 1) := by decide +kernel
theorem dX4_await_1 : decode cX4_await 1 = .ok (.getfield 28, 3) := by decide +kernel
theorem dX4_await_4 : decode cX4_await 4 = .ok (.sipush 256, 3) := by decide +kernel
theorem dX4_await_7 : decode cX4_await 7 = .ok (.if_icmp .lt 5, 3) := by decide +kernel
theorem dX4_await_10 : decode cX4_await 10 = .ok (.iconst 0, 1) := by decide +kernel
theorem dX4_await_11 : decode cX4_await 11 = .ok (.ireturn, 1) := by decide +kernel
theorem dX4_await_12 : decode cX4_await 12 = .ok (.aload_n 0, 1) := by decide +kernel
theorem dX4_await_13 : decode cX4_await 13 = .ok (.getfield 25, 3) := by decide +kernel
theorem dX4_await_16 : decode cX4_await 16 = .ok (.aload_n 0, 1) := by decide +kernel
theorem dX4_await_17 : decode cX4_await 17 = .ok (.getfield 28, 3) := by decide +kernel
theorem dX4_await_20 : decode cX4_await 20 = .ok (.iload_n 1, 1) := by decide +kernel
theorem dX4_await_21 : decode cX4_await 21 = .ok (.iastore, 1) := by decide +kernel
theorem dX4_await_22 : decode cX4_await 22 = .ok (.aload_n 0, 1) := by decide +kernel
theorem dX4_await_23 : decode cX4_await 23 = .ok (.dup, 1) := by decide +kernel
theorem dX4_await_24 : decode cX4_await 24 = .ok (.getfield 28, 3) := by decide +kernel
theorem dX4_await_27 : decode cX4_await 27 = .ok (.iconst 1, 1) := by decide +kernel
theorem dX4_await_28 : decode cX4_await 28 = .ok (.iadd, 1) := by decide +kernel
theorem dX4_await_29 : decode cX4_await 29 = .ok (.putfield 28, 3) := by decide +kernel
theorem dX4_await_32 : decode cX4_await 32 = .ok (.iconst 1, 1) := by decide +kernel
theorem dX4_await_33 : decode cX4_await 33 = .ok (.ireturn, 1) := by decide +kernel
theorem dX4_takeSign_0 : decode cX4_takeSign 0 = .ok (.iload_n 1, 1) := by decide +kernel
theorem dX4_takeSign_1 : decode cX4_takeSign 1 = .ok (.lookupswitch 83 #[(41, 43), (93, 43), (124, 55), (125, 78)], 43) := by decide +kernel
theorem dX4_takeSign_44 : decode cX4_takeSign 44 = .ok (.aload_n 0, 1) := by decide +kernel
theorem dX4_takeSign_45 : decode cX4_takeSign 45 = .ok (.dup, 1) := by decide +kernel
theorem dX4_takeSign_46 : decode cX4_takeSign 46 = .ok (.getfield 34, 3) := by decide +kernel
theorem dX4_takeSign_49 : decode cX4_takeSign 49 = .ok (.iconst 1, 1) := by decide +kernel
theorem dX4_takeSign_50 : decode cX4_takeSign 50 = .ok (.iadd, 1) := by decide +kernel
theorem dX4_takeSign_51 : decode cX4_takeSign 51 = .ok (.putfield 34, 3) := by decide +kernel
theorem dX4_takeSign_54 : decode cX4_takeSign 54 = .ok (.iconst 1, 1) := by decide +kernel
theorem dX4_takeSign_55 : decode cX4_takeSign 55 = .ok (.ireturn, 1) := by decide +kernel
theorem dX4_takeSign_56 : decode cX4_takeSign 56 = .ok (.aload_n 0, 1) := by decide +kernel
theorem dX4_takeSign_57 : decode cX4_takeSign 57 = .ok (.aload_n 0, 1) := by decide +kernel
theorem dX4_takeSign_58 : decode cX4_takeSign 58 = .ok (.getfield 51, 3) := by decide +kernel
theorem dX4_takeSign_61 : decode cX4_takeSign 61 = .ok (.aload_n 0, 1) := by decide +kernel
theorem dX4_takeSign_62 : decode cX4_takeSign 62 = .ok (.getfield 31, 3) := by decide +kernel
theorem dX4_takeSign_65 : decode cX4_takeSign 65 = .ok (.aload_n 0, 1) := by decide +kernel
theorem dX4_takeSign_66 : decode cX4_takeSign 66 = .ok (.getfield 34, 3) := by decide +kernel
theorem dX4_takeSign_69 : decode cX4_takeSign 69 = .ok (.invokevirtual 86, 3) := by decide +kernel
theorem dX4_takeSign_72 : decode cX4_takeSign 72 = .ok (.iconst 1, 1) := by decide +kernel
theorem dX4_takeSign_73 : decode cX4_takeSign 73 = .ok (.iadd, 1) := by decide +kernel
theorem dX4_takeSign_74 : decode cX4_takeSign 74 = .ok (.putfield 34, 3) := by decide +kernel
theorem dX4_takeSign_77 : decode cX4_takeSign 77 = .ok (.iconst 1, 1) := by decide +kernel
theorem dX4_takeSign_78 : decode cX4_takeSign 78 = .ok (.ireturn, 1) := by decide +kernel
theorem dX4_takeSign_79 : decode cX4_takeSign 79 = .ok (.aload_n 0, 1) := by decide +kernel
theorem dX4_takeSign_80 : decode cX4_takeSign 80 = .ok (.invokevirtual 89, 3) := by decide +kernel
theorem dX4_takeSign_83 : decode cX4_takeSign 83 = .ok (.ireturn, 1) := by decide +kernel
theorem dX4_takeSign_84 : decode cX4_takeSign 84 = .ok (.aload_n 0, 1) := by decide +kernel
theorem dX4_takeSign_85 : decode cX4_takeSign 85 = .ok (.dup, 1) := by decide +kernel
theorem dX4_takeSign_86 : decode cX4_takeSign 86 = .ok (.getfield 37, 3) := by decide +kernel
theorem dX4_takeSign_89 : decode cX4_takeSign 89 = .ok (.iconst 1, 1) := by decide +kernel
theorem dX4_takeSign_90 : decode cX4_takeSign 90 = .ok (.iadd, 1) := by decide +kernel
theorem dX4_takeSign_91 : decode cX4_takeSign 91 = .ok (.putfield 37, 3) := by decide +kernel
theorem dX4_takeSign_94 : decode cX4_takeSign 94 = .ok (.aload_n 0, 1) := by decide +kernel
theorem dX4_takeSign_95 : decode cX4_takeSign 95 = .ok (.getfield 37, 3) := by decide +kernel
theorem dX4_takeSign_98 : decode cX4_takeSign 98 = .ok (.sipush 2000, 3) := by decide +kernel
theorem dX4_takeSign_101 : decode cX4_takeSign 101 = .ok (.if_icmp .gt 15, 3) := by decide +kernel
theorem dX4_takeSign_104 : decode cX4_takeSign 104 = .ok (.aload_n 0, 1) := by decide +kernel
theorem dX4_takeSign_105 : decode cX4_takeSign 105 = .ok (.iload_n 1, 1) := by decide +kernel
theorem dX4_takeSign_106 : decode cX4_takeSign 106 = .ok (.invokevirtual 92, 3) := by decide +kernel
theorem dX4_takeSign_109 : decode cX4_takeSign 109 = .ok (.ifCond .eq 7, 3) := by decide +kernel
theorem dX4_takeSign_112 : decode cX4_takeSign 112 = .ok (.iconst 1, 1) := by decide +kernel
theorem dX4_takeSign_113 : decode cX4_takeSign 113 = .ok (.goto 4, 3) := by decide +kernel
theorem dX4_takeSign_116 : decode cX4_takeSign 116 = .ok (.iconst 0, 1) := by decide +kernel
theorem dX4_takeSign_117 : decode cX4_takeSign 117 = .ok (.ireturn, 1) := by decide +kernel
theorem dX4_takeItem_0 : decode cX4_takeItem 0 = .ok (.iload_n 1, 1) := by decide +kernel
theorem dX4_takeItem_1 : decode cX4_takeItem 1 = .ok (.invokestatic 95, 3) := by decide +kernel
theorem dX4_takeItem_4 : decode cX4_takeItem 4 = .ok (.ifCond .eq 12, 3) := by decide +kernel
theorem dX4_takeItem_7 : decode cX4_takeItem 7 = .ok (.aload_n 0, 1) := by decide +kernel
theorem dX4_takeItem_8 : decode cX4_takeItem 8 = .ok (.iload_n 1, 1) := by decide +kernel
theorem dX4_takeItem_9 : decode cX4_takeItem 9 = .ok (.bipush 97, 2) := by decide +kernel
theorem dX4_takeItem_11 : decode cX4_takeItem 11 = .ok (.isub, 1) := by decide +kernel
theorem dX4_takeItem_12 : decode cX4_takeItem 12 = .ok (.invokevirtual 98, 3) := by decide +kernel
theorem dX4_takeItem_15 : decode cX4_takeItem 15 = .ok (.ireturn, 1) := by decide +kernel
theorem dX4_takeItem_16 : decode cX4_takeItem 16 = .ok (.iload_n 1, 1) := by decide +kernel
theorem dX4_takeItem_17 : decode cX4_takeItem 17 = .ok (.invokestatic 101, 3) := by decide +kernel
theorem dX4_takeItem_20 : decode cX4_takeItem 20 = .ok (.ifCond .eq 34, 3) := by decide +kernel
theorem dX4_takeItem_23 : decode cX4_takeItem 23 = .ok (.aload_n 0, 1) := by decide +kernel
theorem dX4_takeItem_24 : decode cX4_takeItem 24 = .ok (.aload_n 0, 1) := by decide +kernel
theorem dX4_takeItem_25 : decode cX4_takeItem 25 = .ok (.getfield 31, 3) := by decide +kernel
theorem dX4_takeItem_28 : decode cX4_takeItem 28 = .ok (.bipush 60, 2) := by decide +kernel
theorem dX4_takeItem_30 : decode cX4_takeItem 30 = .ok (.imul, 1) := by decide +kernel
theorem dX4_takeItem_31 : decode cX4_takeItem 31 = .ok (.aload_n 0, 1) := by decide +kernel
theorem dX4_takeItem_32 : decode cX4_takeItem 32 = .ok (.getfield 34, 3) := by decide +kernel
theorem dX4_takeItem_35 : decode cX4_takeItem 35 = .ok (.iadd, 1) := by decide +kernel
theorem dX4_takeItem_36 : decode cX4_takeItem 36 = .ok (.invokevirtual 104, 3) := by decide +kernel
theorem dX4_takeItem_39 : decode cX4_takeItem 39 = .ok (.ifCond .ne 5, 3) := by decide +kernel
theorem dX4_takeItem_42 : decode cX4_takeItem 42 = .ok (.iconst 0, 1) := by decide +kernel
theorem dX4_takeItem_43 : decode cX4_takeItem 43 = .ok (.ireturn, 1) := by decide +kernel
theorem dX4_takeItem_44 : decode cX4_takeItem 44 = .ok (.aload_n 0, 1) := by decide +kernel
theorem dX4_takeItem_45 : decode cX4_takeItem 45 = .ok (.iload_n 1, 1) := by decide +kernel
theorem dX4_takeItem_46 : decode cX4_takeItem 46 = .ok (.bipush 65, 2) := by decide +kernel
theorem dX4_takeItem_48 : decode cX4_takeItem 48 = .ok (.isub, 1) := by decide +kernel
theorem dX4_takeItem_49 : decode cX4_takeItem 49 = .ok (.invokevirtual 55, 3) := by decide +kernel
theorem dX4_takeItem_52 : decode cX4_takeItem 52 = .ok (.iconst 1, 1) := by decide +kernel
theorem dX4_takeItem_53 : decode cX4_takeItem 53 = .ok (.ireturn, 1) := by decide +kernel
theorem dX4_takeItem_54 : decode cX4_takeItem 54 = .ok (.aload_n 0, 1) := by decide +kernel
theorem dX4_takeItem_55 : decode cX4_takeItem 55 = .ok (.getfield 34, 3) := by decide +kernel
theorem dX4_takeItem_58 : decode cX4_takeItem 58 = .ok (.iconst 1, 1) := by decide +kernel
theorem dX4_takeItem_59 : decode cX4_takeItem 59 = .ok (.iadd, 1) := by decide +kernel
theorem dX4_takeItem_60 : decode cX4_takeItem 60 = .ok (.istore_n 2, 1) := by decide +kernel
theorem dX4_takeItem_61 : decode cX4_takeItem 61 = .ok (.aload_n 0, 1) := by decide +kernel
theorem dX4_takeItem_62 : decode cX4_takeItem 62 = .ok (.getfield 51, 3) := by decide +kernel
theorem dX4_takeItem_65 : decode cX4_takeItem 65 = .ok (.aload_n 0, 1) := by decide +kernel
theorem dX4_takeItem_66 : decode cX4_takeItem 66 = .ok (.getfield 31, 3) := by decide +kernel
theorem dX4_takeItem_69 : decode cX4_takeItem 69 = .ok (.aload_n 0, 1) := by decide +kernel
theorem dX4_takeItem_70 : decode cX4_takeItem 70 = .ok (.getfield 34, 3) := by decide +kernel
theorem dX4_takeItem_73 : decode cX4_takeItem 73 = .ok (.invokevirtual 86, 3) := by decide +kernel
theorem dX4_takeItem_76 : decode cX4_takeItem 76 = .ok (.iconst 1, 1) := by decide +kernel
theorem dX4_takeItem_77 : decode cX4_takeItem 77 = .ok (.iadd, 1) := by decide +kernel
theorem dX4_takeItem_78 : decode cX4_takeItem 78 = .ok (.istore_n 3, 1) := by decide +kernel
theorem dX4_takeItem_79 : decode cX4_takeItem 79 = .ok (.iload_n 1, 1) := by decide +kernel
theorem dX4_takeItem_80 : decode cX4_takeItem 80 = .ok (.bipush 123, 2) := by decide +kernel
theorem dX4_takeItem_82 : decode cX4_takeItem 82 = .ok (.if_icmp .ne 54, 3) := by decide +kernel
theorem dX4_takeItem_85 : decode cX4_takeItem 85 = .ok (.aload_n 0, 1) := by decide +kernel
theorem dX4_takeItem_86 : decode cX4_takeItem 86 = .ok (.aload_n 0, 1) := by decide +kernel
theorem dX4_takeItem_87 : decode cX4_takeItem 87 = .ok (.getfield 51, 3) := by decide +kernel
theorem dX4_takeItem_90 : decode cX4_takeItem 90 = .ok (.getfield 107, 3) := by decide +kernel
theorem dX4_takeItem_93 : decode cX4_takeItem 93 = .ok (.iconst 1, 1) := by decide +kernel
theorem dX4_takeItem_94 : decode cX4_takeItem 94 = .ok (.iadd, 1) := by decide +kernel
theorem dX4_takeItem_95 : decode cX4_takeItem 95 = .ok (.invokevirtual 110, 3) := by decide +kernel
theorem dX4_takeItem_98 : decode cX4_takeItem 98 = .ok (.istore 4, 2) := by decide +kernel
theorem dX4_takeItem_100 : decode cX4_takeItem 100 = .ok (.aload_n 0, 1) := by decide +kernel
theorem dX4_takeItem_101 : decode cX4_takeItem 101 = .ok (.iload 4, 2) := by decide +kernel
theorem dX4_takeItem_103 : decode cX4_takeItem 103 = .ok (.ifCond .ne 7, 3) := by decide +kernel
theorem dX4_takeItem_106 : decode cX4_takeItem 106 = .ok (.iload_n 3, 1) := by decide +kernel
theorem dX4_takeItem_107 : decode cX4_takeItem 107 = .ok (.goto 4, 3) := by decide +kernel
theorem dX4_takeItem_110 : decode cX4_takeItem 110 = .ok (.iload_n 2, 1) := by decide +kernel
theorem dX4_takeItem_111 : decode cX4_takeItem 111 = .ok (.putfield 34, 3) := by decide +kernel
theorem dX4_takeItem_114 : decode cX4_takeItem 114 = .ok (.iload 4, 2) := by decide +kernel
theorem dX4_takeItem_116 : decode cX4_takeItem 116 = .ok (.ifCond .eq 14, 3) := by decide +kernel
theorem dX4_takeItem_119 : decode cX4_takeItem 119 = .ok (.aload_n 0, 1) := by decide +kernel
theorem dX4_takeItem_120 : decode cX4_takeItem 120 = .ok (.iload 4, 2) := by decide +kernel
theorem dX4_takeItem_122 : decode cX4_takeItem 122 = .ok (.iconst 1, 1) := by decide +kernel
theorem dX4_takeItem_123 : decode cX4_takeItem 123 = .ok (.isub, 1) := by decide +kernel
theorem dX4_takeItem_124 : decode cX4_takeItem 124 = .ok (.invokevirtual 104, 3) := by decide +kernel
theorem dX4_takeItem_127 : decode cX4_takeItem 127 = .ok (.ifCond .eq 7, 3) := by decide +kernel
theorem dX4_takeItem_130 : decode cX4_takeItem 130 = .ok (.iconst 1, 1) := by decide +kernel
theorem dX4_takeItem_131 : decode cX4_takeItem 131 = .ok (.goto 4, 3) := by decide +kernel
theorem dX4_takeItem_134 : decode cX4_takeItem 134 = .ok (.iconst 0, 1) := by decide +kernel
theorem dX4_takeItem_135 : decode cX4_takeItem 135 = .ok (.ireturn, 1) := by decide +kernel
theorem dX4_takeItem_136 : decode cX4_takeItem 136 = .ok (.aload_n 0, 1) := by decide +kernel
theorem dX4_takeItem_137 : decode cX4_takeItem 137 = .ok (.iconst 2, 1) := by decide +kernel
theorem dX4_takeItem_138 : decode cX4_takeItem 138 = .ok (.invokevirtual 110, 3) := by decide +kernel
theorem dX4_takeItem_141 : decode cX4_takeItem 141 = .ok (.iload_n 1, 1) := by decide +kernel
theorem dX4_takeItem_142 : decode cX4_takeItem 142 = .ok (.bipush 91, 2) := by decide +kernel
theorem dX4_takeItem_144 : decode cX4_takeItem 144 = .ok (.if_icmp .ne 7, 3) := by decide +kernel
theorem dX4_takeItem_147 : decode cX4_takeItem 147 = .ok (.iconst 1, 1) := by decide +kernel
theorem dX4_takeItem_148 : decode cX4_takeItem 148 = .ok (.goto 4, 3) := by decide +kernel
theorem dX4_takeItem_151 : decode cX4_takeItem 151 = .ok (.iconst 0, 1) := by decide +kernel
theorem dX4_takeItem_152 : decode cX4_takeItem 152 = .ok (.if_icmp .ne 7, 3) := by decide +kernel
theorem dX4_takeItem_155 : decode cX4_takeItem 155 = .ok (.iconst 1, 1) := by decide +kernel
theorem dX4_takeItem_156 : decode cX4_takeItem 156 = .ok (.goto 4, 3) := by decide +kernel
theorem dX4_takeItem_159 : decode cX4_takeItem 159 = .ok (.iconst 0, 1) := by decide +kernel
theorem dX4_takeItem_160 : decode cX4_takeItem 160 = .ok (.istore 4, 2) := by decide +kernel
theorem dX4_takeItem_162 : decode cX4_takeItem 162 = .ok (.aload_n 0, 1) := by decide +kernel
theorem dX4_takeItem_163 : decode cX4_takeItem 163 = .ok (.iload 4, 2) := by decide +kernel
theorem dX4_takeItem_165 : decode cX4_takeItem 165 = .ok (.ifCond .eq 7, 3) := by decide +kernel
theorem dX4_takeItem_168 : decode cX4_takeItem 168 = .ok (.iload_n 2, 1) := by decide +kernel
theorem dX4_takeItem_169 : decode cX4_takeItem 169 = .ok (.goto 4, 3) := by decide +kernel
theorem dX4_takeItem_172 : decode cX4_takeItem 172 = .ok (.iload_n 3, 1) := by decide +kernel
theorem dX4_takeItem_173 : decode cX4_takeItem 173 = .ok (.putfield 34, 3) := by decide +kernel
theorem dX4_takeItem_176 : decode cX4_takeItem 176 = .ok (.iconst 1, 1) := by decide +kernel
theorem dX4_takeItem_177 : decode cX4_takeItem 177 = .ok (.ireturn, 1) := by decide +kernel
theorem dX4_again_0 : decode cX4_again 0 = .ok (.aload_n 0, 1) := by decide +kernel
theorem dX4_again_1 : decode cX4_again 1 = .ok (.getfield 28, 3) := by decide +kernel
theorem dX4_again_4 : decode cX4_again 4 = .ok (.ifCond .ne 5, 3) := by decide +kernel
theorem dX4_again_7 : decode cX4_again 7 = .ok (.iconst 0, 1) := by decide +kernel
theorem dX4_again_8 : decode cX4_again 8 = .ok (.ireturn, 1) := by decide +kernel
theorem dX4_again_9 : decode cX4_again 9 = .ok (.aload_n 0, 1) := by decide +kernel
theorem dX4_again_10 : decode cX4_again 10 = .ok (.getfield 25, 3) := by decide +kernel
theorem dX4_again_13 : decode cX4_again 13 = .ok (.aload_n 0, 1) := by decide +kernel
theorem dX4_again_14 : decode cX4_again 14 = .ok (.getfield 28, 3) := by decide +kernel
theorem dX4_again_17 : decode cX4_again 17 = .ok (.iconst 1, 1) := by decide +kernel
theorem dX4_again_18 : decode cX4_again 18 = .ok (.isub, 1) := by decide +kernel
theorem dX4_again_19 : decode cX4_again 19 = .ok (.iaload, 1) := by decide +kernel
theorem dX4_again_20 : decode cX4_again 20 = .ok (.ifCond .le 42, 3) := by decide +kernel
theorem dX4_again_23 : decode cX4_again 23 = .ok (.aload_n 0, 1) := by decide +kernel
theorem dX4_again_24 : decode cX4_again 24 = .ok (.getfield 25, 3) := by decide +kernel
theorem dX4_again_27 : decode cX4_again 27 = .ok (.aload_n 0, 1) := by decide +kernel
theorem dX4_again_28 : decode cX4_again 28 = .ok (.getfield 28, 3) := by decide +kernel
theorem dX4_again_31 : decode cX4_again 31 = .ok (.iconst 1, 1) := by decide +kernel
theorem dX4_again_32 : decode cX4_again 32 = .ok (.isub, 1) := by decide +kernel
theorem dX4_again_33 : decode cX4_again 33 = .ok (.dup2, 1) := by decide +kernel
theorem dX4_again_34 : decode cX4_again 34 = .ok (.iaload, 1) := by decide +kernel
theorem dX4_again_35 : decode cX4_again 35 = .ok (.iconst 1, 1) := by decide +kernel
theorem dX4_again_36 : decode cX4_again 36 = .ok (.isub, 1) := by decide +kernel
theorem dX4_again_37 : decode cX4_again 37 = .ok (.iastore, 1) := by decide +kernel
theorem dX4_again_38 : decode cX4_again 38 = .ok (.aload_n 0, 1) := by decide +kernel
theorem dX4_again_39 : decode cX4_again 39 = .ok (.aload_n 0, 1) := by decide +kernel
theorem dX4_again_40 : decode cX4_again 40 = .ok (.getfield 51, 3) := by decide +kernel
theorem dX4_again_43 : decode cX4_again 43 = .ok (.aload_n 0, 1) := by decide +kernel
theorem dX4_again_44 : decode cX4_again 44 = .ok (.getfield 31, 3) := by decide +kernel
theorem dX4_again_47 : decode cX4_again 47 = .ok (.aload_n 0, 1) := by decide +kernel
theorem dX4_again_48 : decode cX4_again 48 = .ok (.getfield 34, 3) := by decide +kernel
theorem dX4_again_51 : decode cX4_again 51 = .ok (.invokevirtual 86, 3) := by decide +kernel
theorem dX4_again_54 : decode cX4_again 54 = .ok (.iconst 1, 1) := by decide +kernel
theorem dX4_again_55 : decode cX4_again 55 = .ok (.iadd, 1) := by decide +kernel
theorem dX4_again_56 : decode cX4_again 56 = .ok (.putfield 34, 3) := by decide +kernel
theorem dX4_again_59 : decode cX4_again 59 = .ok (.goto 23, 3) := by decide +kernel
theorem dX4_again_62 : decode cX4_again 62 = .ok (.aload_n 0, 1) := by decide +kernel
theorem dX4_again_63 : decode cX4_again 63 = .ok (.dup, 1) := by decide +kernel
theorem dX4_again_64 : decode cX4_again 64 = .ok (.getfield 28, 3) := by decide +kernel
theorem dX4_again_67 : decode cX4_again 67 = .ok (.iconst 1, 1) := by decide +kernel
theorem dX4_again_68 : decode cX4_again 68 = .ok (.isub, 1) := by decide +kernel
theorem dX4_again_69 : decode cX4_again 69 = .ok (.putfield 28, 3) := by decide +kernel
theorem dX4_again_72 : decode cX4_again 72 = .ok (.aload_n 0, 1) := by decide +kernel
theorem dX4_again_73 : decode cX4_again 73 = .ok (.dup, 1) := by decide +kernel
theorem dX4_again_74 : decode cX4_again 74 = .ok (.getfield 34, 3) := by decide +kernel
theorem dX4_again_77 : decode cX4_again 77 = .ok (.iconst 1, 1) := by decide +kernel
theorem dX4_again_78 : decode cX4_again 78 = .ok (.iadd, 1) := by decide +kernel
theorem dX4_again_79 : decode cX4_again 79 = .ok (.putfield 34, 3) := by decide +kernel
theorem dX4_again_82 : decode cX4_again 82 = .ok (.iconst 1, 1) := by decide +kernel
theorem dX4_again_83 : decode cX4_again 83 = .ok (.ireturn, 1) := by decide +kernel
theorem dX4_singLine_0 : decode cX4_singLine 0 = .ok (.aload_n 0, 1) := by decide +kernel
theorem dX4_singLine_1 : decode cX4_singLine 1 = .ok (.getfield 40, 3) := by decide +kernel
theorem dX4_singLine_4 : decode cX4_singLine 4 = .ok (.aload_n 0, 1) := by decide +kernel
theorem dX4_singLine_5 : decode cX4_singLine 5 = .ok (.getfield 47, 3) := by decide +kernel
theorem dX4_singLine_8 : decode cX4_singLine 8 = .ok (.getfield 114, 3) := by decide +kernel
theorem dX4_singLine_11 : decode cX4_singLine 11 = .ok (.iload_n 1, 1) := by decide +kernel
theorem dX4_singLine_12 : decode cX4_singLine 12 = .ok (.laload, 1) := by decide +kernel
theorem dX4_singLine_13 : decode cX4_singLine 13 = .ok (.land, 1) := by decide +kernel
theorem dX4_singLine_14 : decode cX4_singLine 14 = .ok (.lstore_n 2, 1) := by decide +kernel
theorem dX4_singLine_15 : decode cX4_singLine 15 = .ok (.lload_n 2, 1) := by decide +kernel
theorem dX4_singLine_16 : decode cX4_singLine 16 = .ok (.lconst 0, 1) := by decide +kernel
theorem dX4_singLine_17 : decode cX4_singLine 17 = .ok (.lcmp, 1) := by decide +kernel
theorem dX4_singLine_18 : decode cX4_singLine 18 = .ok (.ifCond .eq 12, 3) := by decide +kernel
theorem dX4_singLine_21 : decode cX4_singLine 21 = .ok (.aload_n 0, 1) := by decide +kernel
theorem dX4_singLine_22 : decode cX4_singLine 22 = .ok (.getfield 22, 3) := by decide +kernel
theorem dX4_singLine_25 : decode cX4_singLine 25 = .ok (.bipush 40, 2) := by decide +kernel
theorem dX4_singLine_27 : decode cX4_singLine 27 = .ok (.if_icmp .lt 5, 3) := by decide +kernel
theorem dX4_singLine_30 : decode cX4_singLine 30 = .ok (.iconst 0, 1) := by decide +kernel
theorem dX4_singLine_31 : decode cX4_singLine 31 = .ok (.ireturn, 1) := by decide +kernel
theorem dX4_singLine_32 : decode cX4_singLine 32 = .ok (.aload_n 0, 1) := by decide +kernel
theorem dX4_singLine_33 : decode cX4_singLine 33 = .ok (.getfield 19, 3) := by decide +kernel
theorem dX4_singLine_36 : decode cX4_singLine 36 = .ok (.aload_n 0, 1) := by decide +kernel
theorem dX4_singLine_37 : decode cX4_singLine 37 = .ok (.getfield 22, 3) := by decide +kernel
theorem dX4_singLine_40 : decode cX4_singLine 40 = .ok (.lload_n 2, 1) := by decide +kernel
theorem dX4_singLine_41 : decode cX4_singLine 41 = .ok (.aload_n 0, 1) := by decide +kernel
theorem dX4_singLine_42 : decode cX4_singLine 42 = .ok (.lload_n 2, 1) := by decide +kernel
theorem dX4_singLine_43 : decode cX4_singLine 43 = .ok (.invokestatic 120, 3) := by decide +kernel
theorem dX4_singLine_46 : decode cX4_singLine 46 = .ok (.invokevirtual 110, 3) := by decide +kernel
theorem dX4_singLine_49 : decode cX4_singLine 49 = .ok (.invokestatic 126, 3) := by decide +kernel
theorem dX4_singLine_52 : decode cX4_singLine 52 = .ok (.iastore, 1) := by decide +kernel
theorem dX4_singLine_53 : decode cX4_singLine 53 = .ok (.aload_n 0, 1) := by decide +kernel
theorem dX4_singLine_54 : decode cX4_singLine 54 = .ok (.dup, 1) := by decide +kernel
theorem dX4_singLine_55 : decode cX4_singLine 55 = .ok (.getfield 22, 3) := by decide +kernel
theorem dX4_singLine_58 : decode cX4_singLine 58 = .ok (.iconst 1, 1) := by decide +kernel
theorem dX4_singLine_59 : decode cX4_singLine 59 = .ok (.iadd, 1) := by decide +kernel
theorem dX4_singLine_60 : decode cX4_singLine 60 = .ok (.putfield 22, 3) := by decide +kernel
theorem dX4_singLine_63 : decode cX4_singLine 63 = .ok (.aload_n 0, 1) := by decide +kernel
theorem dX4_singLine_64 : decode cX4_singLine 64 = .ok (.dup, 1) := by decide +kernel
theorem dX4_singLine_65 : decode cX4_singLine 65 = .ok (.getfield 34, 3) := by decide +kernel
theorem dX4_singLine_68 : decode cX4_singLine 68 = .ok (.iconst 1, 1) := by decide +kernel
theorem dX4_singLine_69 : decode cX4_singLine 69 = .ok (.iadd, 1) := by decide +kernel
theorem dX4_singLine_70 : decode cX4_singLine 70 = .ok (.putfield 34, 3) := by decide +kernel
theorem dX4_singLine_73 : decode cX4_singLine 73 = .ok (.iconst 1, 1) := by decide +kernel
theorem dX4_singLine_74 : decode cX4_singLine 74 = .ok (.ireturn, 1) := by decide +kernel
theorem dX4_choose_0 : decode cX4_choose 0 = .ok (.iload_n 1, 1) := by decide +kernel
theorem dX4_choose_1 : decode cX4_choose 1 = .ok (.iconst 1, 1) := by decide +kernel
theorem dX4_choose_2 : decode cX4_choose 2 = .ok (.if_icmp .ge 5, 3) := by decide +kernel
theorem dX4_choose_5 : decode cX4_choose 5 = .ok (.iconst 0, 1) := by decide +kernel
theorem dX4_choose_6 : decode cX4_choose 6 = .ok (.ireturn, 1) := by decide +kernel
theorem dX4_choose_7 : decode cX4_choose 7 = .ok (.aload_n 0, 1) := by decide +kernel
theorem dX4_choose_8 : decode cX4_choose 8 = .ok (.getfield 44, 3) := by decide +kernel
theorem dX4_choose_11 : decode cX4_choose 11 = .ok (.iload_n 1, 1) := by decide +kernel
theorem dX4_choose_12 : decode cX4_choose 12 = .ok (.i2l, 1) := by decide +kernel
theorem dX4_choose_13 : decode cX4_choose 13 = .ok (.lrem, 1) := by decide +kernel
theorem dX4_choose_14 : decode cX4_choose 14 = .ok (.l2i, 1) := by decide +kernel
theorem dX4_choose_15 : decode cX4_choose 15 = .ok (.istore_n 2, 1) := by decide +kernel
theorem dX4_choose_16 : decode cX4_choose 16 = .ok (.aload_n 0, 1) := by decide +kernel
theorem dX4_choose_17 : decode cX4_choose 17 = .ok (.dup, 1) := by decide +kernel
theorem dX4_choose_18 : decode cX4_choose 18 = .ok (.getfield 44, 3) := by decide +kernel
theorem dX4_choose_21 : decode cX4_choose 21 = .ok (.iload_n 1, 1) := by decide +kernel
theorem dX4_choose_22 : decode cX4_choose 22 = .ok (.i2l, 1) := by decide +kernel
theorem dX4_choose_23 : decode cX4_choose 23 = .ok (.ldiv, 1) := by decide +kernel
theorem dX4_choose_24 : decode cX4_choose 24 = .ok (.putfield 44, 3) := by decide +kernel
theorem dX4_choose_27 : decode cX4_choose 27 = .ok (.iload_n 2, 1) := by decide +kernel
theorem dX4_choose_28 : decode cX4_choose 28 = .ok (.ireturn, 1) := by decide +kernel
theorem dX5_init_0 : decode cX5_init 0 = .ok (.aload_n 0, 1) := by decide +kernel
theorem dX5_init_1 : decode cX5_init 1 = .ok (.invokespecial 3, 3) := by decide +kernel
theorem dX5_init_4 : decode cX5_init 4 = .ok (.aload_n 0, 1) := by decide +kernel
theorem dX5_init_5 : decode cX5_init 5 = .ok (.bipush 40, 2) := by decide +kernel
theorem dX5_init_7 : decode cX5_init 7 = .ok (.newarray .int, 2) := by decide +kernel
theorem dX5_init_9 : decode cX5_init 9 = .ok (.putfield 9, 3) := by decide +kernel
theorem dX5_init_12 : decode cX5_init 12 = .ok (.aload_n 0, 1) := by decide +kernel
theorem dX5_init_13 : decode cX5_init 13 = .ok (.bipush 40, 2) := by decide +kernel
theorem dX5_init_15 : decode cX5_init 15 = .ok (.newarray .int, 2) := by decide +kernel
theorem dX5_init_17 : decode cX5_init 17 = .ok (.putfield 15, 3) := by decide +kernel
theorem dX5_init_20 : decode cX5_init 20 = .ok (.aload_n 0, 1) := by decide +kernel
theorem dX5_init_21 : decode cX5_init 21 = .ok (.bipush 40, 2) := by decide +kernel
theorem dX5_init_23 : decode cX5_init 23 = .ok (.newarray .int, 2) := by decide +kernel
theorem dX5_init_25 : decode cX5_init 25 = .ok (.putfield 18, 3) := by decide +kernel
theorem dX5_init_28 : decode cX5_init 28 = .ok (.aload_n 0, 1) := by decide +kernel
theorem dX5_init_29 : decode cX5_init 29 = .ok (.iconst 0, 1) := by decide +kernel
theorem dX5_init_30 : decode cX5_init 30 = .ok (.putfield 21, 3) := by decide +kernel
theorem dX5_init_33 : decode cX5_init 33 = .ok (.aload_n 0, 1) := by decide +kernel
theorem dX5_init_34 : decode cX5_init 34 = .ok (.bipush 10, 2) := by decide +kernel
theorem dX5_init_36 : decode cX5_init 36 = .ok (.newarray .int, 2) := by decide +kernel
theorem dX5_init_38 : decode cX5_init 38 = .ok (.putfield 25, 3) := by decide +kernel
theorem dX5_init_41 : decode cX5_init 41 = .ok (.aload_n 0, 1) := by decide +kernel
theorem dX5_init_42 : decode cX5_init 42 = .ok (.bipush 10, 2) := by decide +kernel
theorem dX5_init_44 : decode cX5_init 44 = .ok (.newarray .int, 2) := by decide +kernel
theorem dX5_init_46 : decode cX5_init 46 = .ok (.putfield 28, 3) := by decide +kernel
theorem dX5_init_49 : decode cX5_init 49 = .ok (.aload_n 0, 1) := by decide +kernel
theorem dX5_init_50 : decode cX5_init 50 = .ok (.bipush 40, 2) := by decide +kernel
theorem dX5_init_52 : decode cX5_init 52 = .ok (.newarray .int, 2) := by decide +kernel
theorem dX5_init_54 : decode cX5_init 54 = .ok (.putfield 31, 3) := by decide +kernel
theorem dX5_init_57 : decode cX5_init 57 = .ok (.aload_n 0, 1) := by decide +kernel
theorem dX5_init_58 : decode cX5_init 58 = .ok (.bipush 40, 2) := by decide +kernel
theorem dX5_init_60 : decode cX5_init 60 = .ok (.newarray .int, 2) := by decide +kernel
theorem dX5_init_62 : decode cX5_init 62 = .ok (.putfield 34, 3) := by decide +kernel
theorem dX5_init_65 : decode cX5_init 65 = .ok (.aload_n 0, 1) := by decide +kernel
theorem dX5_init_66 : decode cX5_init 66 = .ok (.bipush 40, 2) := by decide +kernel
theorem dX5_init_68 : decode cX5_init 68 = .ok (.newarray .int, 2) := by decide +kernel
theorem dX5_init_70 : decode cX5_init 70 = .ok (.putfield 37, 3) := by decide +kernel
theorem dX5_init_73 : decode cX5_init 73 = .ok (.aload_n 0, 1) := by decide +kernel
theorem dX5_init_74 : decode cX5_init 74 = .ok (.bipush 40, 2) := by decide +kernel
theorem dX5_init_76 : decode cX5_init 76 = .ok (.newarray .int, 2) := by decide +kernel
theorem dX5_init_78 : decode cX5_init 78 = .ok (.putfield 40, 3) := by decide +kernel
theorem dX5_init_81 : decode cX5_init 81 = .ok (.aload_n 0, 1) := by decide +kernel
theorem dX5_init_82 : decode cX5_init 82 = .ok (.bipush 8, 2) := by decide +kernel
theorem dX5_init_84 : decode cX5_init 84 = .ok (.newarray .long, 2) := by decide +kernel
theorem dX5_init_86 : decode cX5_init 86 = .ok (.putfield 43, 3) := by decide +kernel
theorem dX5_init_89 : decode cX5_init 89 = .ok (.aload_n 0, 1) := by decide +kernel
theorem dX5_init_90 : decode cX5_init 90 = .ok (.lconst 0, 1) := by decide +kernel
theorem dX5_init_91 : decode cX5_init 91 = .ok (.putfield 47, 3) := by decide +kernel
theorem dX5_init_94 : decode cX5_init 94 = .ok (.aload_n 0, 1) := by decide +kernel
theorem dX5_init_95 : decode cX5_init 95 = .ok (.iconst 0, 1) := by decide +kernel
theorem dX5_init_96 : decode cX5_init 96 = .ok (.putfield 51, 3) := by decide +kernel
theorem dX5_init_99 : decode cX5_init 99 = .ok (.aload_n 0, 1) := by decide +kernel
theorem dX5_init_100 : decode cX5_init 100 = .ok (.iconst 3, 1) := by decide +kernel
theorem dX5_init_101 : decode cX5_init 101 = .ok (.newarray .int, 2) := by decide +kernel
theorem dX5_init_103 : decode cX5_init 103 = .ok (.putfield 54, 3) := by decide +kernel
theorem dX5_init_106 : decode cX5_init 106 = .ok (.aload_n 0, 1) := by decide +kernel
theorem dX5_init_107 : decode cX5_init 107 = .ok (.bipush 40, 2) := by decide +kernel
theorem dX5_init_109 : decode cX5_init 109 = .ok (.newarray .int, 2) := by decide +kernel
theorem dX5_init_111 : decode cX5_init 111 = .ok (.putfield 57, 3) := by decide +kernel
theorem dX5_init_114 : decode cX5_init 114 = .ok (.aload_n 0, 1) := by decide +kernel
theorem dX5_init_115 : decode cX5_init 115 = .ok (.iconst 0, 1) := by decide +kernel
theorem dX5_init_116 : decode cX5_init 116 = .ok (.putfield 60, 3) := by decide +kernel
theorem dX5_init_119 : decode cX5_init 119 = .ok (.aload_n 0, 1) := by decide +kernel
theorem dX5_init_120 : decode cX5_init 120 = .ok (.getfield 25, 3) := by decide +kernel
theorem dX5_init_123 : decode cX5_init 123 = .ok (.iconst 1, 1) := by decide +kernel
theorem dX5_init_124 : decode cX5_init 124 = .ok (.invokestatic 63, 3) := by decide +kernel
theorem dX5_init_127 : decode cX5_init 127 = .ok (.aload_n 0, 1) := by decide +kernel
theorem dX5_init_128 : decode cX5_init 128 = .ok (.getfield 54, 3) := by decide +kernel
theorem dX5_init_131 : decode cX5_init 131 = .ok (.iconst 0, 1) := by decide +kernel
theorem dX5_init_132 : decode cX5_init 132 = .ok (.iconst 4, 1) := by decide +kernel
theorem dX5_init_133 : decode cX5_init 133 = .ok (.iastore, 1) := by decide +kernel
theorem dX5_init_134 : decode cX5_init 134 = .ok (.aload_n 0, 1) := by decide +kernel
theorem dX5_init_135 : decode cX5_init 135 = .ok (.getfield 54, 3) := by decide +kernel
theorem dX5_init_138 : decode cX5_init 138 = .ok (.iconst 1, 1) := by decide +kernel
theorem dX5_init_139 : decode cX5_init 139 = .ok (.bipush 6, 2) := by decide +kernel
theorem dX5_init_141 : decode cX5_init 141 = .ok (.iastore, 1) := by decide +kernel
theorem dX5_init_142 : decode cX5_init 142 = .ok (.return_, 1) := by decide +kernel
theorem dX5_isHalf_0 : decode cX5_isHalf 0 = .ok (.iload_n 1, 1) := by decide +kernel
theorem dX5_isHalf_1 : decode cX5_isHalf 1 = .ok (.ifCond .lt 15, 3) := by decide +kernel
theorem dX5_isHalf_4 : decode cX5_isHalf 4 = .ok (.iload_n 1, 1) := by decide +kernel
theorem dX5_isHalf_5 : decode cX5_isHalf 5 = .ok (.aload_n 0, 1) := by decide +kernel
theorem dX5_isHalf_6 : decode cX5_isHalf 6 = .ok (.getfield 21, 3) := by decide +kernel
theorem dX5_isHalf_9 : decode cX5_isHalf 9 = .ok (.if_icmp .ge 7, 3) := by decide +kernel
theorem dX5_isHalf_12 : decode cX5_isHalf 12 = .ok (.iconst 1, 1) := by decide +kernel
theorem dX5_isHalf_13 : decode cX5_isHalf 13 = .ok (.goto 4, 3) := by decide +kernel
theorem dX5_isHalf_16 : decode cX5_isHalf 16 = .ok (.iconst 0, 1) := by decide +kernel
theorem dX5_isHalf_17 : decode cX5_isHalf 17 = .ok (.ireturn, 1) := by decide +kernel
theorem dX5_isLine_0 : decode cX5_isLine 0 = .ok (.iload_n 1, 1) := by decide +kernel
theorem dX5_isLine_1 : decode cX5_isLine 1 = .ok (.ifCond .lt 15, 3) := by decide +kernel
theorem dX5_isLine_4 : decode cX5_isLine 4 = .ok (.iload_n 1, 1) := by decide +kernel
theorem dX5_isLine_5 : decode cX5_isLine 5 = .ok (.aload_n 0, 1) := by decide +kernel
theorem dX5_isLine_6 : decode cX5_isLine 6 = .ok (.getfield 51, 3) := by decide +kernel
theorem dX5_isLine_9 : decode cX5_isLine 9 = .ok (.if_icmp .ge 7, 3) := by decide +kernel
theorem dX5_isLine_12 : decode cX5_isLine 12 = .ok (.iconst 1, 1) := by decide +kernel
theorem dX5_isLine_13 : decode cX5_isLine 13 = .ok (.goto 4, 3) := by decide +kernel
theorem dX5_isLine_16 : decode cX5_isLine 16 = .ok (.iconst 0, 1) := by decide +kernel
theorem dX5_isLine_17 : decode cX5_isLine 17 = .ok (.ireturn, 1) := by decide +kernel
theorem dX5_addHalf_0 : decode cX5_addHalf 0 = .ok (.aload_n 0, 1) := by decide +kernel
theorem dX5_addHalf_1 : decode cX5_addHalf 1 = .ok (.getfield 9, 3) := by decide +kernel
theorem dX5_addHalf_4 : decode cX5_addHalf 4 = .ok (.aload_n 0, 1) := by decide +kernel
theorem dX5_addHalf_5 : decode cX5_addHalf 5 = .ok (.getfield 21, 3) := by decide +kernel
theorem dX5_addHalf_8 : decode cX5_addHalf 8 = .ok (.iload_n 1, 1) := by decide +kernel
theorem dX5_addHalf_9 : decode cX5_addHalf 9 = .ok (.iastore, 1) := by decide +kernel
theorem dX5_addHalf_10 : decode cX5_addHalf 10 = .ok (.aload_n 0, 1) := by decide +kernel
theorem dX5_addHalf_11 : decode cX5_addHalf 11 = .ok (.getfield 15, 3) := by decide +kernel
theorem dX5_addHalf_14 : decode cX5_addHalf 14 = .ok (.aload_n 0, 1) := by decide +kernel
theorem dX5_addHalf_15 : decode cX5_addHalf 15 = .ok (.getfield 21, 3) := by decide +kernel
theorem dX5_addHalf_18 : decode cX5_addHalf 18 = .ok (.iload_n 2, 1) := by decide +kernel
theorem dX5_addHalf_19 : decode cX5_addHalf 19 = .ok (.iastore, 1) := by decide +kernel
theorem dX5_addHalf_20 : decode cX5_addHalf 20 = .ok (.aload_n 0, 1) := by decide +kernel
theorem dX5_addHalf_21 : decode cX5_addHalf 21 = .ok (.getfield 18, 3) := by decide +kernel
theorem dX5_addHalf_24 : decode cX5_addHalf 24 = .ok (.aload_n 0, 1) := by decide +kernel
theorem dX5_addHalf_25 : decode cX5_addHalf 25 = .ok (.getfield 21, 3) := by decide +kernel
theorem dX5_addHalf_28 : decode cX5_addHalf 28 = .ok (.iload_n 3, 1) := by decide +kernel
theorem dX5_addHalf_29 : decode cX5_addHalf 29 = .ok (.iastore, 1) := by decide +kernel
theorem dX5_addHalf_30 : decode cX5_addHalf 30 = .ok (.aload_n 0, 1) := by decide +kernel
theorem dX5_addHalf_31 : decode cX5_addHalf 31 = .ok (.dup, 1) := by decide +kernel
theorem dX5_addHalf_32 : decode cX5_addHalf 32 = .ok (.getfield 21, 3) := by decide +kernel
theorem dX5_addHalf_35 : decode cX5_addHalf 35 = .ok (.iconst 1, 1) := by decide +kernel
theorem dX5_addHalf_36 : decode cX5_addHalf 36 = .ok (.iadd, 1) := by decide +kernel
theorem dX5_addHalf_37 : decode cX5_addHalf 37 = .ok (.putfield 21, 3) := by decide +kernel
theorem dX5_addHalf_40 : decode cX5_addHalf 40 = .ok (.aload_n 0, 1) := by decide +kernel
theorem dX5_addHalf_41 : decode cX5_addHalf 41 = .ok (.getfield 21, 3) := by decide +kernel
theorem dX5_addHalf_44 : decode cX5_addHalf 44 = .ok (.iconst 1, 1) := by decide +kernel
theorem dX5_addHalf_45 : decode cX5_addHalf 45 = .ok (.isub, 1) := by decide +kernel
theorem dX5_addHalf_46 : decode cX5_addHalf 46 = .ok (.ireturn, 1) := by decide +kernel
theorem dX5_addLine_0 : decode cX5_addLine 0 = .ok (.aload_n 0, 1) := by decide +kernel
theorem dX5_addLine_1 : decode cX5_addLine 1 = .ok (.getfield 31, 3) := by decide +kernel
theorem dX5_addLine_4 : decode cX5_addLine 4 = .ok (.aload_n 0, 1) := by decide +kernel
theorem dX5_addLine_5 : decode cX5_addLine 5 = .ok (.getfield 51, 3) := by decide +kernel
theorem dX5_addLine_8 : decode cX5_addLine 8 = .ok (.iload_n 1, 1) := by decide +kernel
theorem dX5_addLine_9 : decode cX5_addLine 9 = .ok (.iastore, 1) := by decide +kernel
theorem dX5_addLine_10 : decode cX5_addLine 10 = .ok (.aload_n 0, 1) := by decide +kernel
theorem dX5_addLine_11 : decode cX5_addLine 11 = .ok (.getfield 34, 3) := by decide +kernel
theorem dX5_addLine_14 : decode cX5_addLine 14 = .ok (.aload_n 0, 1) := by decide +kernel
theorem dX5_addLine_15 : decode cX5_addLine 15 = .ok (.getfield 51, 3) := by decide +kernel
theorem dX5_addLine_18 : decode cX5_addLine 18 = .ok (.iload_n 2, 1) := by decide +kernel
theorem dX5_addLine_19 : decode cX5_addLine 19 = .ok (.iastore, 1) := by decide +kernel
theorem dX5_addLine_20 : decode cX5_addLine 20 = .ok (.aload_n 0, 1) := by decide +kernel
theorem dX5_addLine_21 : decode cX5_addLine 21 = .ok (.getfield 37, 3) := by decide +kernel
theorem dX5_addLine_24 : decode cX5_addLine 24 = .ok (.aload_n 0, 1) := by decide +kernel
theorem dX5_addLine_25 : decode cX5_addLine 25 = .ok (.getfield 51, 3) := by decide +kernel
theorem dX5_addLine_28 : decode cX5_addLine 28 = .ok (.iload_n 3, 1) := by decide +kernel
theorem dX5_addLine_29 : decode cX5_addLine 29 = .ok (.iastore, 1) := by decide +kernel
theorem dX5_addLine_30 : decode cX5_addLine 30 = .ok (.aload_n 0, 1) := by decide +kernel
theorem dX5_addLine_31 : decode cX5_addLine 31 = .ok (.getfield 40, 3) := by decide +kernel
theorem dX5_addLine_34 : decode cX5_addLine 34 = .ok (.aload_n 0, 1) := by decide +kernel
theorem dX5_addLine_35 : decode cX5_addLine 35 = .ok (.getfield 51, 3) := by decide +kernel
theorem dX5_addLine_38 : decode cX5_addLine 38 = .ok (.iload 4, 2) := by decide +kernel
theorem dX5_addLine_40 : decode cX5_addLine 40 = .ok (.iastore, 1) := by decide +kernel
theorem dX5_addLine_41 : decode cX5_addLine 41 = .ok (.aload_n 0, 1) := by decide +kernel
theorem dX5_addLine_42 : decode cX5_addLine 42 = .ok (.getfield 43, 3) := by decide +kernel
theorem dX5_addLine_45 : decode cX5_addLine 45 = .ok (.iload_n 3, 1) := by decide +kernel
theorem dX5_addLine_46 : decode cX5_addLine 46 = .ok (.dup2, 1) := by decide +kernel
theorem dX5_addLine_47 : decode cX5_addLine 47 = .ok (.laload, 1) := by decide +kernel
theorem dX5_addLine_48 : decode cX5_addLine 48 = .ok (.lconst 1, 1) := by decide +kernel
theorem dX5_addLine_49 : decode cX5_addLine 49 = .ok (.aload_n 0, 1) := by decide +kernel
theorem dX5_addLine_50 : decode cX5_addLine 50 = .ok (.getfield 51, 3) := by decide +kernel
theorem dX5_addLine_53 : decode cX5_addLine 53 = .ok (.lshl, 1) := by decide +kernel
theorem dX5_addLine_54 : decode cX5_addLine 54 = .ok (.lor, 1) := by decide +kernel
theorem dX5_addLine_55 : decode cX5_addLine 55 = .ok (.lastore, 1) := by decide +kernel
theorem dX5_addLine_56 : decode cX5_addLine 56 = .ok (.aload_n 0, 1) := by decide +kernel
theorem dX5_addLine_57 : decode cX5_addLine 57 = .ok (.dup, 1) := by decide +kernel
theorem dX5_addLine_58 : decode cX5_addLine 58 = .ok (.getfield 47, 3) := by decide +kernel
theorem dX5_addLine_61 : decode cX5_addLine 61 = .ok (.iload 5, 2) := by decide +kernel
theorem dX5_addLine_63 : decode cX5_addLine 63 = .ok (.i2l, 1) := by decide +kernel
theorem dX5_addLine_64 : decode cX5_addLine 64 = .ok (.aload_n 0, 1) := by decide +kernel
theorem dX5_addLine_65 : decode cX5_addLine 65 = .ok (.getfield 51, 3) := by decide +kernel
theorem dX5_addLine_68 : decode cX5_addLine 68 = .ok (.lshl, 1) := by decide +kernel
theorem dX5_addLine_69 : decode cX5_addLine 69 = .ok (.lor, 1) := by decide +kernel
theorem dX5_addLine_70 : decode cX5_addLine 70 = .ok (.putfield 47, 3) := by decide +kernel
theorem dX5_addLine_73 : decode cX5_addLine 73 = .ok (.aload_n 0, 1) := by decide +kernel
theorem dX5_addLine_74 : decode cX5_addLine 74 = .ok (.dup, 1) := by decide +kernel
theorem dX5_addLine_75 : decode cX5_addLine 75 = .ok (.getfield 51, 3) := by decide +kernel
theorem dX5_addLine_78 : decode cX5_addLine 78 = .ok (.iconst 1, 1) := by decide +kernel
theorem dX5_addLine_79 : decode cX5_addLine 79 = .ok (.iadd, 1) := by decide +kernel
theorem dX5_addLine_80 : decode cX5_addLine 80 = .ok (.putfield 51, 3) := by decide +kernel
theorem dX5_addLine_83 : decode cX5_addLine 83 = .ok (.aload_n 0, 1) := by decide +kernel
theorem dX5_addLine_84 : decode cX5_addLine 84 = .ok (.getfield 51, 3) := by decide +kernel
theorem dX5_addLine_87 : decode cX5_addLine 87 = .ok (.iconst 1, 1) := by decide +kernel
theorem dX5_addLine_88 : decode cX5_addLine 88 = .ok (.isub, 1) := by decide +kernel
theorem dX5_addLine_89 : decode cX5_addLine 89 = .ok (.ireturn, 1) := by decide +kernel
theorem dX5_sungBeats_0 : decode cX5_sungBeats 0 = .ok (.aload_n 0, 1) := by decide +kernel
theorem dX5_sungBeats_1 : decode cX5_sungBeats 1 = .ok (.getfield 18, 3) := by decide +kernel
theorem dX5_sungBeats_4 : decode cX5_sungBeats 4 = .ok (.iload_n 1, 1) := by decide +kernel
theorem dX5_sungBeats_5 : decode cX5_sungBeats 5 = .ok (.iaload, 1) := by decide +kernel
theorem dX5_sungBeats_6 : decode cX5_sungBeats 6 = .ok (.ifCond .ge 12, 3) := by decide +kernel
theorem dX5_sungBeats_9 : decode cX5_sungBeats 9 = .ok (.aload_n 0, 1) := by decide +kernel
theorem dX5_sungBeats_10 : decode cX5_sungBeats 10 = .ok (.getfield 9, 3) := by decide +kernel
theorem dX5_sungBeats_13 : decode cX5_sungBeats 13 = .ok (.iload_n 1, 1) := by decide +kernel
theorem dX5_sungBeats_14 : decode cX5_sungBeats 14 = .ok (.iaload, 1) := by decide +kernel
theorem dX5_sungBeats_15 : decode cX5_sungBeats 15 = .ok (.goto 16, 3) := by decide +kernel
theorem dX5_sungBeats_18 : decode cX5_sungBeats 18 = .ok (.aload_n 0, 1) := by decide +kernel
theorem dX5_sungBeats_19 : decode cX5_sungBeats 19 = .ok (.getfield 9, 3) := by decide +kernel
theorem dX5_sungBeats_22 : decode cX5_sungBeats 22 = .ok (.iload_n 1, 1) := by decide +kernel
theorem dX5_sungBeats_23 : decode cX5_sungBeats 23 = .ok (.iaload, 1) := by decide +kernel
theorem dX5_sungBeats_24 : decode cX5_sungBeats 24 = .ok (.aload_n 0, 1) := by decide +kernel
theorem dX5_sungBeats_25 : decode cX5_sungBeats 25 = .ok (.getfield 25, 3) := by decide +kernel
theorem dX5_sungBeats_28 : decode cX5_sungBeats 28 = .ok (.iload_n 2, 1) := by decide +kernel
theorem dX5_sungBeats_29 : decode cX5_sungBeats 29 = .ok (.iaload, 1) := by decide +kernel
theorem dX5_sungBeats_30 : decode cX5_sungBeats 30 = .ok (.iadd, 1) := by decide +kernel
theorem dX5_sungBeats_31 : decode cX5_sungBeats 31 = .ok (.ireturn, 1) := by decide +kernel
theorem dX5_sungHeavy_0 : decode cX5_sungHeavy 0 = .ok (.aload_n 0, 1) := by decide +kernel
theorem dX5_sungHeavy_1 : decode cX5_sungHeavy 1 = .ok (.getfield 18, 3) := by decide +kernel
theorem dX5_sungHeavy_4 : decode cX5_sungHeavy 4 = .ok (.iload_n 1, 1) := by decide +kernel
theorem dX5_sungHeavy_5 : decode cX5_sungHeavy 5 = .ok (.iaload, 1) := by decide +kernel
theorem dX5_sungHeavy_6 : decode cX5_sungHeavy 6 = .ok (.istore_n 3, 1) := by decide +kernel
theorem dX5_sungHeavy_7 : decode cX5_sungHeavy 7 = .ok (.aload_n 0, 1) := by decide +kernel
theorem dX5_sungHeavy_8 : decode cX5_sungHeavy 8 = .ok (.getfield 15, 3) := by decide +kernel
theorem dX5_sungHeavy_11 : decode cX5_sungHeavy 11 = .ok (.iload_n 1, 1) := by decide +kernel
theorem dX5_sungHeavy_12 : decode cX5_sungHeavy 12 = .ok (.iaload, 1) := by decide +kernel
theorem dX5_sungHeavy_13 : decode cX5_sungHeavy 13 = .ok (.istore 4, 2) := by decide +kernel
theorem dX5_sungHeavy_15 : decode cX5_sungHeavy 15 = .ok (.iload_n 3, 1) := by decide +kernel
theorem dX5_sungHeavy_16 : decode cX5_sungHeavy 16 = .ok (.ifCond .ge 6, 3) := by decide +kernel
theorem dX5_sungHeavy_19 : decode cX5_sungHeavy 19 = .ok (.iload 4, 2) := by decide +kernel
theorem dX5_sungHeavy_21 : decode cX5_sungHeavy 21 = .ok (.ireturn, 1) := by decide +kernel
theorem dX5_sungHeavy_22 : decode cX5_sungHeavy 22 = .ok (.iload 4, 2) := by decide +kernel
theorem dX5_sungHeavy_24 : decode cX5_sungHeavy 24 = .ok (.iconst 1, 1) := by decide +kernel
theorem dX5_sungHeavy_25 : decode cX5_sungHeavy 25 = .ok (.iload_n 3, 1) := by decide +kernel
theorem dX5_sungHeavy_26 : decode cX5_sungHeavy 26 = .ok (.ishl, 1) := by decide +kernel
theorem dX5_sungHeavy_27 : decode cX5_sungHeavy 27 = .ok (.iconst 1, 1) := by decide +kernel
theorem dX5_sungHeavy_28 : decode cX5_sungHeavy 28 = .ok (.isub, 1) := by decide +kernel
theorem dX5_sungHeavy_29 : decode cX5_sungHeavy 29 = .ok (.iand, 1) := by decide +kernel
theorem dX5_sungHeavy_30 : decode cX5_sungHeavy 30 = .ok (.istore 5, 2) := by decide +kernel
theorem dX5_sungHeavy_32 : decode cX5_sungHeavy 32 = .ok (.iload 4, 2) := by decide +kernel
theorem dX5_sungHeavy_34 : decode cX5_sungHeavy 34 = .ok (.iload_n 3, 1) := by decide +kernel
theorem dX5_sungHeavy_35 : decode cX5_sungHeavy 35 = .ok (.ishr, 1) := by decide +kernel
theorem dX5_sungHeavy_36 : decode cX5_sungHeavy 36 = .ok (.istore 6, 2) := by decide +kernel
theorem dX5_sungHeavy_38 : decode cX5_sungHeavy 38 = .ok (.iload 5, 2) := by decide +kernel
theorem dX5_sungHeavy_40 : decode cX5_sungHeavy 40 = .ok (.aload_n 0, 1) := by decide +kernel
theorem dX5_sungHeavy_41 : decode cX5_sungHeavy 41 = .ok (.getfield 28, 3) := by decide +kernel
theorem dX5_sungHeavy_44 : decode cX5_sungHeavy 44 = .ok (.iload_n 2, 1) := by decide +kernel
theorem dX5_sungHeavy_45 : decode cX5_sungHeavy 45 = .ok (.iaload, 1) := by decide +kernel
theorem dX5_sungHeavy_46 : decode cX5_sungHeavy 46 = .ok (.iload_n 3, 1) := by decide +kernel
theorem dX5_sungHeavy_47 : decode cX5_sungHeavy 47 = .ok (.ishl, 1) := by decide +kernel
theorem dX5_sungHeavy_48 : decode cX5_sungHeavy 48 = .ok (.ior, 1) := by decide +kernel
theorem dX5_sungHeavy_49 : decode cX5_sungHeavy 49 = .ok (.iload 6, 2) := by decide +kernel
theorem dX5_sungHeavy_51 : decode cX5_sungHeavy 51 = .ok (.iload_n 3, 1) := by decide +kernel
theorem dX5_sungHeavy_52 : decode cX5_sungHeavy 52 = .ok (.aload_n 0, 1) := by decide +kernel
theorem dX5_sungHeavy_53 : decode cX5_sungHeavy 53 = .ok (.getfield 25, 3) := by decide +kernel
theorem dX5_sungHeavy_56 : decode cX5_sungHeavy 56 = .ok (.iload_n 2, 1) := by decide +kernel
theorem dX5_sungHeavy_57 : decode cX5_sungHeavy 57 = .ok (.iaload, 1) := by decide +kernel
theorem dX5_sungHeavy_58 : decode cX5_sungHeavy 58 = .ok (.iadd, 1) := by decide +kernel
theorem dX5_sungHeavy_59 : decode cX5_sungHeavy 59 = .ok (.ishl, 1) := by decide +kernel
theorem dX5_sungHeavy_60 : decode cX5_sungHeavy 60 = .ok (.ior, 1) := by decide +kernel
theorem dX5_sungHeavy_61 : decode cX5_sungHeavy 61 = .ok (.ireturn, 1) := by decide +kernel
theorem dX5_lineBeats_0 : decode cX5_lineBeats 0 = .ok (.aload_n 0, 1) := by decide +kernel
theorem dX5_lineBeats_1 : decode cX5_lineBeats 1 = .ok (.getfield 40, 3) := by decide +kernel
theorem dX5_lineBeats_4 : decode cX5_lineBeats 4 = .ok (.iload_n 1, 1) := by decide +kernel
theorem dX5_lineBeats_5 : decode cX5_lineBeats 5 = .ok (.iaload, 1) := by decide +kernel
theorem dX5_lineBeats_6 : decode cX5_lineBeats 6 = .ok (.istore_n 2, 1) := by decide +kernel
theorem dX5_lineBeats_7 : decode cX5_lineBeats 7 = .ok (.aload_n 0, 1) := by decide +kernel
theorem dX5_lineBeats_8 : decode cX5_lineBeats 8 = .ok (.aload_n 0, 1) := by decide +kernel
theorem dX5_lineBeats_9 : decode cX5_lineBeats 9 = .ok (.getfield 31, 3) := by decide +kernel
theorem dX5_lineBeats_12 : decode cX5_lineBeats 12 = .ok (.iload_n 1, 1) := by decide +kernel
theorem dX5_lineBeats_13 : decode cX5_lineBeats 13 = .ok (.iaload, 1) := by decide +kernel
theorem dX5_lineBeats_14 : decode cX5_lineBeats 14 = .ok (.iload_n 2, 1) := by decide +kernel
theorem dX5_lineBeats_15 : decode cX5_lineBeats 15 = .ok (.invokevirtual 69, 3) := by decide +kernel
theorem dX5_lineBeats_18 : decode cX5_lineBeats 18 = .ok (.aload_n 0, 1) := by decide +kernel
theorem dX5_lineBeats_19 : decode cX5_lineBeats 19 = .ok (.aload_n 0, 1) := by decide +kernel
theorem dX5_lineBeats_20 : decode cX5_lineBeats 20 = .ok (.getfield 34, 3) := by decide +kernel
theorem dX5_lineBeats_23 : decode cX5_lineBeats 23 = .ok (.iload_n 1, 1) := by decide +kernel
theorem dX5_lineBeats_24 : decode cX5_lineBeats 24 = .ok (.iaload, 1) := by decide +kernel
theorem dX5_lineBeats_25 : decode cX5_lineBeats 25 = .ok (.iload_n 2, 1) := by decide +kernel
theorem dX5_lineBeats_26 : decode cX5_lineBeats 26 = .ok (.invokevirtual 69, 3) := by decide +kernel
theorem dX5_lineBeats_29 : decode cX5_lineBeats 29 = .ok (.iadd, 1) := by decide +kernel
theorem dX5_lineBeats_30 : decode cX5_lineBeats 30 = .ok (.ireturn, 1) := by decide +kernel
theorem dX5_lineHeavy_0 : decode cX5_lineHeavy 0 = .ok (.aload_n 0, 1) := by decide +kernel
theorem dX5_lineHeavy_1 : decode cX5_lineHeavy 1 = .ok (.getfield 40, 3) := by decide +kernel
theorem dX5_lineHeavy_4 : decode cX5_lineHeavy 4 = .ok (.iload_n 1, 1) := by decide +kernel
theorem dX5_lineHeavy_5 : decode cX5_lineHeavy 5 = .ok (.iaload, 1) := by decide +kernel
theorem dX5_lineHeavy_6 : decode cX5_lineHeavy 6 = .ok (.istore_n 2, 1) := by decide +kernel
theorem dX5_lineHeavy_7 : decode cX5_lineHeavy 7 = .ok (.aload_n 0, 1) := by decide +kernel
theorem dX5_lineHeavy_8 : decode cX5_lineHeavy 8 = .ok (.aload_n 0, 1) := by decide +kernel
theorem dX5_lineHeavy_9 : decode cX5_lineHeavy 9 = .ok (.getfield 31, 3) := by decide +kernel
theorem dX5_lineHeavy_12 : decode cX5_lineHeavy 12 = .ok (.iload_n 1, 1) := by decide +kernel
theorem dX5_lineHeavy_13 : decode cX5_lineHeavy 13 = .ok (.iaload, 1) := by decide +kernel
theorem dX5_lineHeavy_14 : decode cX5_lineHeavy 14 = .ok (.iload_n 2, 1) := by decide +kernel
theorem dX5_lineHeavy_15 : decode cX5_lineHeavy 15 = .ok (.invokevirtual 69, 3) := by decide +kernel
theorem dX5_lineHeavy_18 : decode cX5_lineHeavy 18 = .ok (.istore_n 3, 1) := by decide +kernel
theorem dX5_lineHeavy_19 : decode cX5_lineHeavy 19 = .ok (.aload_n 0, 1) := by decide +kernel
theorem dX5_lineHeavy_20 : decode cX5_lineHeavy 20 = .ok (.aload_n 0, 1) := by decide +kernel
theorem dX5_lineHeavy_21 : decode cX5_lineHeavy 21 = .ok (.getfield 31, 3) := by decide +kernel
theorem dX5_lineHeavy_24 : decode cX5_lineHeavy 24 = .ok (.iload_n 1, 1) := by decide +kernel
theorem dX5_lineHeavy_25 : decode cX5_lineHeavy 25 = .ok (.iaload, 1) := by decide +kernel
theorem dX5_lineHeavy_26 : decode cX5_lineHeavy 26 = .ok (.iload_n 2, 1) := by decide +kernel
theorem dX5_lineHeavy_27 : decode cX5_lineHeavy 27 = .ok (.invokevirtual 73, 3) := by decide +kernel
theorem dX5_lineHeavy_30 : decode cX5_lineHeavy 30 = .ok (.aload_n 0, 1) := by decide +kernel
theorem dX5_lineHeavy_31 : decode cX5_lineHeavy 31 = .ok (.aload_n 0, 1) := by decide +kernel
theorem dX5_lineHeavy_32 : decode cX5_lineHeavy 32 = .ok (.getfield 34, 3) := by decide +kernel
theorem dX5_lineHeavy_35 : decode cX5_lineHeavy 35 = .ok (.iload_n 1, 1) := by decide +kernel
theorem dX5_lineHeavy_36 : decode cX5_lineHeavy 36 = .ok (.iaload, 1) := by decide +kernel
theorem dX5_lineHeavy_37 : decode cX5_lineHeavy 37 = .ok (.iload_n 2, 1) := by decide +kernel
theorem dX5_lineHeavy_38 : decode cX5_lineHeavy 38 = .ok (.invokevirtual 73, 3) := by decide +kernel
theorem dX5_lineHeavy_41 : decode cX5_lineHeavy 41 = .ok (.iload_n 3, 1) := by decide +kernel
theorem dX5_lineHeavy_42 : decode cX5_lineHeavy 42 = .ok (.ishl, 1) := by decide +kernel
theorem dX5_lineHeavy_43 : decode cX5_lineHeavy 43 = .ok (.ior, 1) := by decide +kernel
theorem dX5_lineHeavy_44 : decode cX5_lineHeavy 44 = .ok (.ireturn, 1) := by decide +kernel
theorem dX5_fitsFirst_0 : decode cX5_fitsFirst 0 = .ok (.aload_n 0, 1) := by decide +kernel
theorem dX5_fitsFirst_1 : decode cX5_fitsFirst 1 = .ok (.getfield 54, 3) := by decide +kernel
theorem dX5_fitsFirst_4 : decode cX5_fitsFirst 4 = .ok (.iconst 2, 1) := by decide +kernel
theorem dX5_fitsFirst_5 : decode cX5_fitsFirst 5 = .ok (.iaload, 1) := by decide +kernel
theorem dX5_fitsFirst_6 : decode cX5_fitsFirst 6 = .ok (.iconst 1, 1) := by decide +kernel
theorem dX5_fitsFirst_7 : decode cX5_fitsFirst 7 = .ok (.aload_n 0, 1) := by decide +kernel
theorem dX5_fitsFirst_8 : decode cX5_fitsFirst 8 = .ok (.getfield 54, 3) := by decide +kernel
theorem dX5_fitsFirst_11 : decode cX5_fitsFirst 11 = .ok (.iconst 0, 1) := by decide +kernel
theorem dX5_fitsFirst_12 : decode cX5_fitsFirst 12 = .ok (.iaload, 1) := by decide +kernel
theorem dX5_fitsFirst_13 : decode cX5_fitsFirst 13 = .ok (.ishl, 1) := by decide +kernel
theorem dX5_fitsFirst_14 : decode cX5_fitsFirst 14 = .ok (.iconst 1, 1) := by decide +kernel
theorem dX5_fitsFirst_15 : decode cX5_fitsFirst 15 = .ok (.isub, 1) := by decide +kernel
theorem dX5_fitsFirst_16 : decode cX5_fitsFirst 16 = .ok (.iand, 1) := by decide +kernel
theorem dX5_fitsFirst_17 : decode cX5_fitsFirst 17 = .ok (.istore_n 3, 1) := by decide +kernel
theorem dX5_fitsFirst_18 : decode cX5_fitsFirst 18 = .ok (.aload_n 0, 1) := by decide +kernel
theorem dX5_fitsFirst_19 : decode cX5_fitsFirst 19 = .ok (.iload_n 1, 1) := by decide +kernel
theorem dX5_fitsFirst_20 : decode cX5_fitsFirst 20 = .ok (.iload_n 2, 1) := by decide +kernel
theorem dX5_fitsFirst_21 : decode cX5_fitsFirst 21 = .ok (.invokevirtual 69, 3) := by decide +kernel
theorem dX5_fitsFirst_24 : decode cX5_fitsFirst 24 = .ok (.aload_n 0, 1) := by decide +kernel
theorem dX5_fitsFirst_25 : decode cX5_fitsFirst 25 = .ok (.getfield 54, 3) := by decide +kernel
theorem dX5_fitsFirst_28 : decode cX5_fitsFirst 28 = .ok (.iconst 0, 1) := by decide +kernel
theorem dX5_fitsFirst_29 : decode cX5_fitsFirst 29 = .ok (.iaload, 1) := by decide +kernel
theorem dX5_fitsFirst_30 : decode cX5_fitsFirst 30 = .ok (.if_icmp .ne 20, 3) := by decide +kernel
theorem dX5_fitsFirst_33 : decode cX5_fitsFirst 33 = .ok (.iload_n 3, 1) := by decide +kernel
theorem dX5_fitsFirst_34 : decode cX5_fitsFirst 34 = .ok (.aload_n 0, 1) := by decide +kernel
theorem dX5_fitsFirst_35 : decode cX5_fitsFirst 35 = .ok (.iload_n 1, 1) := by decide +kernel
theorem dX5_fitsFirst_36 : decode cX5_fitsFirst 36 = .ok (.iload_n 2, 1) := by decide +kernel
theorem dX5_fitsFirst_37 : decode cX5_fitsFirst 37 = .ok (.invokevirtual 73, 3) := by decide +kernel
theorem dX5_fitsFirst_40 : decode cX5_fitsFirst 40 = .ok (.iconst (-1), 1) := by decide +kernel
theorem dX5_fitsFirst_41 : decode cX5_fitsFirst 41 = .ok (.ixor, 1) := by decide +kernel
theorem dX5_fitsFirst_42 : decode cX5_fitsFirst 42 = .ok (.iand, 1) := by decide +kernel
theorem dX5_fitsFirst_43 : decode cX5_fitsFirst 43 = .ok (.ifCond .ne 7, 3) := by decide +kernel
theorem dX5_fitsFirst_46 : decode cX5_fitsFirst 46 = .ok (.iconst 1, 1) := by decide +kernel
theorem dX5_fitsFirst_47 : decode cX5_fitsFirst 47 = .ok (.goto 4, 3) := by decide +kernel
theorem dX5_fitsFirst_50 : decode cX5_fitsFirst 50 = .ok (.iconst 0, 1) := by decide +kernel
theorem dX5_fitsFirst_51 : decode cX5_fitsFirst 51 = .ok (.ireturn, 1) := by decide +kernel
theorem dX5_fitsSecond_0 : decode cX5_fitsSecond 0 = .ok (.aload_n 0, 1) := by decide +kernel
theorem dX5_fitsSecond_1 : decode cX5_fitsSecond 1 = .ok (.getfield 54, 3) := by decide +kernel
theorem dX5_fitsSecond_4 : decode cX5_fitsSecond 4 = .ok (.iconst 2, 1) := by decide +kernel
theorem dX5_fitsSecond_5 : decode cX5_fitsSecond 5 = .ok (.iaload, 1) := by decide +kernel
theorem dX5_fitsSecond_6 : decode cX5_fitsSecond 6 = .ok (.aload_n 0, 1) := by decide +kernel
theorem dX5_fitsSecond_7 : decode cX5_fitsSecond 7 = .ok (.getfield 54, 3) := by decide +kernel
theorem dX5_fitsSecond_10 : decode cX5_fitsSecond 10 = .ok (.iconst 0, 1) := by decide +kernel
theorem dX5_fitsSecond_11 : decode cX5_fitsSecond 11 = .ok (.iaload, 1) := by decide +kernel
theorem dX5_fitsSecond_12 : decode cX5_fitsSecond 12 = .ok (.ishr, 1) := by decide +kernel
theorem dX5_fitsSecond_13 : decode cX5_fitsSecond 13 = .ok (.istore_n 3, 1) := by decide +kernel
theorem dX5_fitsSecond_14 : decode cX5_fitsSecond 14 = .ok (.aload_n 0, 1) := by decide +kernel
theorem dX5_fitsSecond_15 : decode cX5_fitsSecond 15 = .ok (.iload_n 1, 1) := by decide +kernel
theorem dX5_fitsSecond_16 : decode cX5_fitsSecond 16 = .ok (.iload_n 2, 1) := by decide +kernel
theorem dX5_fitsSecond_17 : decode cX5_fitsSecond 17 = .ok (.invokevirtual 69, 3) := by decide +kernel
theorem dX5_fitsSecond_20 : decode cX5_fitsSecond 20 = .ok (.aload_n 0, 1) := by decide +kernel
theorem dX5_fitsSecond_21 : decode cX5_fitsSecond 21 = .ok (.getfield 54, 3) := by decide +kernel
theorem dX5_fitsSecond_24 : decode cX5_fitsSecond 24 = .ok (.iconst 1, 1) := by decide +kernel
theorem dX5_fitsSecond_25 : decode cX5_fitsSecond 25 = .ok (.iaload, 1) := by decide +kernel
theorem dX5_fitsSecond_26 : decode cX5_fitsSecond 26 = .ok (.if_icmp .ne 20, 3) := by decide +kernel
theorem dX5_fitsSecond_29 : decode cX5_fitsSecond 29 = .ok (.iload_n 3, 1) := by decide +kernel
theorem dX5_fitsSecond_30 : decode cX5_fitsSecond 30 = .ok (.aload_n 0, 1) := by decide +kernel
theorem dX5_fitsSecond_31 : decode cX5_fitsSecond 31 = .ok (.iload_n 1, 1) := by decide +kernel
theorem dX5_fitsSecond_32 : decode cX5_fitsSecond 32 = .ok (.iload_n 2, 1) := by decide +kernel
theorem dX5_fitsSecond_33 : decode cX5_fitsSecond 33 = .ok (.invokevirtual 73, 3) := by decide +kernel
theorem dX5_fitsSecond_36 : decode cX5_fitsSecond 36 = .ok (.iconst (-1), 1) := by decide +kernel
theorem dX5_fitsSecond_37 : decode cX5_fitsSecond 37 = .ok (.ixor, 1) := by decide +kernel
theorem dX5_fitsSecond_38 : decode cX5_fitsSecond 38 = .ok (.iand, 1) := by decide +kernel
theorem dX5_fitsSecond_39 : decode cX5_fitsSecond 39 = .ok (.ifCond .ne 7, 3) := by decide +kernel
theorem dX5_fitsSecond_42 : decode cX5_fitsSecond 42 = .ok (.iconst 1, 1) := by decide +kernel
theorem dX5_fitsSecond_43 : decode cX5_fitsSecond 43 = .ok (.goto 4, 3) := by decide +kernel
theorem dX5_fitsSecond_46 : decode cX5_fitsSecond 46 = .ok (.iconst 0, 1) := by decide +kernel
theorem dX5_fitsSecond_47 : decode cX5_fitsSecond 47 = .ok (.ireturn, 1) := by decide +kernel
theorem dX5_scans_0 : decode cX5_scans 0 = .ok (.aload_n 0, 1) := by decide +kernel
theorem dX5_scans_1 : decode cX5_scans 1 = .ok (.getfield 40, 3) := by decide +kernel
theorem dX5_scans_4 : decode cX5_scans 4 = .ok (.iload_n 1, 1) := by decide +kernel
theorem dX5_scans_5 : decode cX5_scans 5 = .ok (.iaload, 1) := by decide +kernel
theorem dX5_scans_6 : decode cX5_scans 6 = .ok (.istore_n 2, 1) := by decide +kernel
theorem dX5_scans_7 : decode cX5_scans 7 = .ok (.aload_n 0, 1) := by decide +kernel
theorem dX5_scans_8 : decode cX5_scans 8 = .ok (.aload_n 0, 1) := by decide +kernel
theorem dX5_scans_9 : decode cX5_scans 9 = .ok (.getfield 31, 3) := by decide +kernel
theorem dX5_scans_12 : decode cX5_scans 12 = .ok (.iload_n 1, 1) := by decide +kernel
theorem dX5_scans_13 : decode cX5_scans 13 = .ok (.iaload, 1) := by decide +kernel
theorem dX5_scans_14 : decode cX5_scans 14 = .ok (.iload_n 2, 1) := by decide +kernel
theorem dX5_scans_15 : decode cX5_scans 15 = .ok (.invokevirtual 76, 3) := by decide +kernel
theorem dX5_scans_18 : decode cX5_scans 18 = .ok (.ifCond .eq 21, 3) := by decide +kernel
theorem dX5_scans_21 : decode cX5_scans 21 = .ok (.aload_n 0, 1) := by decide +kernel
theorem dX5_scans_22 : decode cX5_scans 22 = .ok (.aload_n 0, 1) := by decide +kernel
theorem dX5_scans_23 : decode cX5_scans 23 = .ok (.getfield 34, 3) := by decide +kernel
theorem dX5_scans_26 : decode cX5_scans 26 = .ok (.iload_n 1, 1) := by decide +kernel
theorem dX5_scans_27 : decode cX5_scans 27 = .ok (.iaload, 1) := by decide +kernel
theorem dX5_scans_28 : decode cX5_scans 28 = .ok (.iload_n 2, 1) := by decide +kernel
theorem dX5_scans_29 : decode cX5_scans 29 = .ok (.invokevirtual 80, 3) := by decide +kernel
theorem dX5_scans_32 : decode cX5_scans 32 = .ok (.ifCond .eq 7, 3) := by decide +kernel
theorem dX5_scans_35 : decode cX5_scans 35 = .ok (.iconst 1, 1) := by decide +kernel
theorem dX5_scans_36 : decode cX5_scans 36 = .ok (.goto 4, 3) := by decide +kernel
theorem dX5_scans_39 : decode cX5_scans 39 = .ok (.iconst 0, 1) := by decide +kernel
theorem dX5_scans_40 : decode cX5_scans 40 = .ok (.ireturn, 1) := by decide +kernel
theorem dX5_scanning_0 : decode cX5_scanning 0 = .ok (.iconst 0, 1) := by decide +kernel
theorem dX5_scanning_1 : decode cX5_scanning 1 = .ok (.istore_n 1, 1) := by decide +kernel
theorem dX5_scanning_2 : decode cX5_scanning 2 = .ok (.iconst 0, 1) := by decide +kernel
theorem dX5_scanning_3 : decode cX5_scanning 3 = .ok (.istore_n 2, 1) := by decide +kernel
theorem dX5_scanning_4 : decode cX5_scanning 4 = .ok (.iload_n 2, 1) := by decide +kernel
theorem dX5_scanning_5 : decode cX5_scanning 5 = .ok (.aload_n 0, 1) := by decide +kernel
theorem dX5_scanning_6 : decode cX5_scanning 6 = .ok (.getfield 51, 3) := by decide +kernel
theorem dX5_scanning_9 : decode cX5_scanning 9 = .ok (.if_icmp .ge 20, 3) := by decide +kernel
theorem dX5_scanning_12 : decode cX5_scanning 12 = .ok (.aload_n 0, 1) := by decide +kernel
theorem dX5_scanning_13 : decode cX5_scanning 13 = .ok (.iload_n 2, 1) := by decide +kernel
theorem dX5_scanning_14 : decode cX5_scanning 14 = .ok (.invokevirtual 83, 3) := by decide +kernel
theorem dX5_scanning_17 : decode cX5_scanning 17 = .ok (.ifCond .eq 6, 3) := by decide +kernel
theorem dX5_scanning_20 : decode cX5_scanning 20 = .ok (.iinc 1 1, 3) := by decide +kernel
theorem dX5_scanning_23 : decode cX5_scanning 23 = .ok (.iinc 2 1, 3) := by decide +kernel
theorem dX5_scanning_26 : decode cX5_scanning 26 = .ok (.goto (-22), 3) := by decide +kernel
theorem dX5_scanning_29 : decode cX5_scanning 29 = .ok (.iload_n 1, 1) := by decide +kernel
theorem dX5_scanning_30 : decode cX5_scanning 30 = .ok (.ireturn, 1) := by decide +kernel
theorem dX5_leastFirst_0 : decode cX5_leastFirst 0 = .ok (.iconst 0, 1) := by decide +kernel
theorem dX5_leastFirst_1 : decode cX5_leastFirst 1 = .ok (.istore_n 2, 1) := by decide +kernel
theorem dX5_leastFirst_2 : decode cX5_leastFirst 2 = .ok (.iload_n 2, 1) := by decide +kernel
theorem dX5_leastFirst_3 : decode cX5_leastFirst 3 = .ok (.aload_n 0, 1) := by decide +kernel
theorem dX5_leastFirst_4 : decode cX5_leastFirst 4 = .ok (.getfield 21, 3) := by decide +kernel
theorem dX5_leastFirst_7 : decode cX5_leastFirst 7 = .ok (.if_icmp .ge 20, 3) := by decide +kernel
theorem dX5_leastFirst_10 : decode cX5_leastFirst 10 = .ok (.aload_n 0, 1) := by decide +kernel
theorem dX5_leastFirst_11 : decode cX5_leastFirst 11 = .ok (.iload_n 2, 1) := by decide +kernel
theorem dX5_leastFirst_12 : decode cX5_leastFirst 12 = .ok (.iload_n 1, 1) := by decide +kernel
theorem dX5_leastFirst_13 : decode cX5_leastFirst 13 = .ok (.invokevirtual 76, 3) := by decide +kernel
theorem dX5_leastFirst_16 : decode cX5_leastFirst 16 = .ok (.ifCond .eq 5, 3) := by decide +kernel
theorem dX5_leastFirst_19 : decode cX5_leastFirst 19 = .ok (.iload_n 2, 1) := by decide +kernel
theorem dX5_leastFirst_20 : decode cX5_leastFirst 20 = .ok (.ireturn, 1) := by decide +kernel
theorem dX5_leastFirst_21 : decode cX5_leastFirst 21 = .ok (.iinc 2 1, 3) := by decide +kernel
theorem dX5_leastFirst_24 : decode cX5_leastFirst 24 = .ok (.goto (-22), 3) := by decide +kernel
theorem dX5_leastFirst_27 : decode cX5_leastFirst 27 = .ok (.iconst (-1), 1) := by decide +kernel
theorem dX5_leastFirst_28 : decode cX5_leastFirst 28 = .ok (.ireturn, 1) := by decide +kernel
theorem dX5_leastSecond_0 : decode cX5_leastSecond 0 = .ok (.iconst 0, 1) := by decide +kernel
theorem dX5_leastSecond_1 : decode cX5_leastSecond 1 = .ok (.istore_n 2, 1) := by decide +kernel
theorem dX5_leastSecond_2 : decode cX5_leastSecond 2 = .ok (.iload_n 2, 1) := by decide +kernel
theorem dX5_leastSecond_3 : decode cX5_leastSecond 3 = .ok (.aload_n 0, 1) := by decide +kernel
theorem dX5_leastSecond_4 : decode cX5_leastSecond 4 = .ok (.getfield 21, 3) := by decide +kernel
theorem dX5_leastSecond_7 : decode cX5_leastSecond 7 = .ok (.if_icmp .ge 20, 3) := by decide +kernel
theorem dX5_leastSecond_10 : decode cX5_leastSecond 10 = .ok (.aload_n 0, 1) := by decide +kernel
theorem dX5_leastSecond_11 : decode cX5_leastSecond 11 = .ok (.iload_n 2, 1) := by decide +kernel
theorem dX5_leastSecond_12 : decode cX5_leastSecond 12 = .ok (.iload_n 1, 1) := by decide +kernel
theorem dX5_leastSecond_13 : decode cX5_leastSecond 13 = .ok (.invokevirtual 80, 3) := by decide +kernel
theorem dX5_leastSecond_16 : decode cX5_leastSecond 16 = .ok (.ifCond .eq 5, 3) := by decide +kernel
theorem dX5_leastSecond_19 : decode cX5_leastSecond 19 = .ok (.iload_n 2, 1) := by decide +kernel
theorem dX5_leastSecond_20 : decode cX5_leastSecond 20 = .ok (.ireturn, 1) := by decide +kernel
theorem dX5_leastSecond_21 : decode cX5_leastSecond 21 = .ok (.iinc 2 1, 3) := by decide +kernel
theorem dX5_leastSecond_24 : decode cX5_leastSecond 24 = .ok (.goto (-22), 3) := by decide +kernel
theorem dX5_leastSecond_27 : decode cX5_leastSecond 27 = .ok (.iconst (-1), 1) := by decide +kernel
theorem dX5_leastSecond_28 : decode cX5_leastSecond 28 = .ok (.ireturn, 1) := by decide +kernel
theorem dX5_putInPlace_0 : decode cX5_putInPlace 0 = .ok (.aload_n 0, 1) := by decide +kernel
theorem dX5_putInPlace_1 : decode cX5_putInPlace 1 = .ok (.iload_n 2, 1) := by decide +kernel
theorem dX5_putInPlace_2 : decode cX5_putInPlace 2 = .ok (.invokevirtual 87, 3) := by decide +kernel
theorem dX5_putInPlace_5 : decode cX5_putInPlace 5 = .ok (.istore_n 3, 1) := by decide +kernel
theorem dX5_putInPlace_6 : decode cX5_putInPlace 6 = .ok (.aload_n 0, 1) := by decide +kernel
theorem dX5_putInPlace_7 : decode cX5_putInPlace 7 = .ok (.iload_n 2, 1) := by decide +kernel
theorem dX5_putInPlace_8 : decode cX5_putInPlace 8 = .ok (.invokevirtual 91, 3) := by decide +kernel
theorem dX5_putInPlace_11 : decode cX5_putInPlace 11 = .ok (.istore 4, 2) := by decide +kernel
theorem dX5_putInPlace_13 : decode cX5_putInPlace 13 = .ok (.iconst 0, 1) := by decide +kernel
theorem dX5_putInPlace_14 : decode cX5_putInPlace 14 = .ok (.istore 5, 2) := by decide +kernel
theorem dX5_putInPlace_16 : decode cX5_putInPlace 16 = .ok (.aload_n 0, 1) := by decide +kernel
theorem dX5_putInPlace_17 : decode cX5_putInPlace 17 = .ok (.iconst 0, 1) := by decide +kernel
theorem dX5_putInPlace_18 : decode cX5_putInPlace 18 = .ok (.putfield 60, 3) := by decide +kernel
theorem dX5_putInPlace_21 : decode cX5_putInPlace 21 = .ok (.iconst 0, 1) := by decide +kernel
theorem dX5_putInPlace_22 : decode cX5_putInPlace 22 = .ok (.istore 6, 2) := by decide +kernel
theorem dX5_putInPlace_24 : decode cX5_putInPlace 24 = .ok (.iload 6, 2) := by decide +kernel
theorem dX5_putInPlace_26 : decode cX5_putInPlace 26 = .ok (.aload_n 0, 1) := by decide +kernel
theorem dX5_putInPlace_27 : decode cX5_putInPlace 27 = .ok (.getfield 51, 3) := by decide +kernel
theorem dX5_putInPlace_30 : decode cX5_putInPlace 30 = .ok (.if_icmp .ge 61, 3) := by decide +kernel
theorem dX5_putInPlace_33 : decode cX5_putInPlace 33 = .ok (.aload_n 0, 1) := by decide +kernel
theorem dX5_putInPlace_34 : decode cX5_putInPlace 34 = .ok (.getfield 40, 3) := by decide +kernel
theorem dX5_putInPlace_37 : decode cX5_putInPlace 37 = .ok (.iload 6, 2) := by decide +kernel
theorem dX5_putInPlace_39 : decode cX5_putInPlace 39 = .ok (.iaload, 1) := by decide +kernel
theorem dX5_putInPlace_40 : decode cX5_putInPlace 40 = .ok (.iload_n 1, 1) := by decide +kernel
theorem dX5_putInPlace_41 : decode cX5_putInPlace 41 = .ok (.if_icmp .ne 44, 3) := by decide +kernel
theorem dX5_putInPlace_44 : decode cX5_putInPlace 44 = .ok (.aload_n 0, 1) := by decide +kernel
theorem dX5_putInPlace_45 : decode cX5_putInPlace 45 = .ok (.getfield 40, 3) := by decide +kernel
theorem dX5_putInPlace_48 : decode cX5_putInPlace 48 = .ok (.iload 6, 2) := by decide +kernel
theorem dX5_putInPlace_50 : decode cX5_putInPlace 50 = .ok (.iload_n 2, 1) := by decide +kernel
theorem dX5_putInPlace_51 : decode cX5_putInPlace 51 = .ok (.iastore, 1) := by decide +kernel
theorem dX5_putInPlace_52 : decode cX5_putInPlace 52 = .ok (.aload_n 0, 1) := by decide +kernel
theorem dX5_putInPlace_53 : decode cX5_putInPlace 53 = .ok (.iload 6, 2) := by decide +kernel
theorem dX5_putInPlace_55 : decode cX5_putInPlace 55 = .ok (.invokevirtual 83, 3) := by decide +kernel
theorem dX5_putInPlace_58 : decode cX5_putInPlace 58 = .ok (.ifCond .ne 27, 3) := by decide +kernel
theorem dX5_putInPlace_61 : decode cX5_putInPlace 61 = .ok (.aload_n 0, 1) := by decide +kernel
theorem dX5_putInPlace_62 : decode cX5_putInPlace 62 = .ok (.iload 6, 2) := by decide +kernel
theorem dX5_putInPlace_64 : decode cX5_putInPlace 64 = .ok (.iload_n 3, 1) := by decide +kernel
theorem dX5_putInPlace_65 : decode cX5_putInPlace 65 = .ok (.iload 4, 2) := by decide +kernel
theorem dX5_putInPlace_67 : decode cX5_putInPlace 67 = .ok (.invokevirtual 94, 3) := by decide +kernel
theorem dX5_putInPlace_70 : decode cX5_putInPlace 70 = .ok (.ifCond .eq 9, 3) := by decide +kernel
theorem dX5_putInPlace_73 : decode cX5_putInPlace 73 = .ok (.iinc 5 1, 3) := by decide +kernel
theorem dX5_putInPlace_76 : decode cX5_putInPlace 76 = .ok (.goto 9, 3) := by decide +kernel
theorem dX5_putInPlace_79 : decode cX5_putInPlace 79 = .ok (.aload_n 0, 1) := by decide +kernel
theorem dX5_putInPlace_80 : decode cX5_putInPlace 80 = .ok (.iload 6, 2) := by decide +kernel
theorem dX5_putInPlace_82 : decode cX5_putInPlace 82 = .ok (.invokevirtual 98, 3) := by decide +kernel
theorem dX5_putInPlace_85 : decode cX5_putInPlace 85 = .ok (.iinc 6 1, 3) := by decide +kernel
theorem dX5_putInPlace_88 : decode cX5_putInPlace 88 = .ok (.goto (-64), 3) := by decide +kernel
theorem dX5_putInPlace_91 : decode cX5_putInPlace 91 = .ok (.iload 5, 2) := by decide +kernel
theorem dX5_putInPlace_93 : decode cX5_putInPlace 93 = .ok (.ireturn, 1) := by decide +kernel
theorem dX5_mend_0 : decode cX5_mend 0 = .ok (.iload_n 2, 1) := by decide +kernel
theorem dX5_mend_1 : decode cX5_mend 1 = .ok (.iconst (-1), 1) := by decide +kernel
theorem dX5_mend_2 : decode cX5_mend 2 = .ok (.if_icmp .eq 8, 3) := by decide +kernel
theorem dX5_mend_5 : decode cX5_mend 5 = .ok (.iload_n 3, 1) := by decide +kernel
theorem dX5_mend_6 : decode cX5_mend 6 = .ok (.iconst (-1), 1) := by decide +kernel
theorem dX5_mend_7 : decode cX5_mend 7 = .ok (.if_icmp .ne 5, 3) := by decide +kernel
theorem dX5_mend_10 : decode cX5_mend 10 = .ok (.iconst 0, 1) := by decide +kernel
theorem dX5_mend_11 : decode cX5_mend 11 = .ok (.ireturn, 1) := by decide +kernel
theorem dX5_mend_12 : decode cX5_mend 12 = .ok (.aload_n 0, 1) := by decide +kernel
theorem dX5_mend_13 : decode cX5_mend 13 = .ok (.getfield 40, 3) := by decide +kernel
theorem dX5_mend_16 : decode cX5_mend 16 = .ok (.iload_n 1, 1) := by decide +kernel
theorem dX5_mend_17 : decode cX5_mend 17 = .ok (.iaload, 1) := by decide +kernel
theorem dX5_mend_18 : decode cX5_mend 18 = .ok (.istore 4, 2) := by decide +kernel
theorem dX5_mend_20 : decode cX5_mend 20 = .ok (.aload_n 0, 1) := by decide +kernel
theorem dX5_mend_21 : decode cX5_mend 21 = .ok (.aload_n 0, 1) := by decide +kernel
theorem dX5_mend_22 : decode cX5_mend 22 = .ok (.getfield 31, 3) := by decide +kernel
theorem dX5_mend_25 : decode cX5_mend 25 = .ok (.iload_n 1, 1) := by decide +kernel
theorem dX5_mend_26 : decode cX5_mend 26 = .ok (.iaload, 1) := by decide +kernel
theorem dX5_mend_27 : decode cX5_mend 27 = .ok (.iload 4, 2) := by decide +kernel
theorem dX5_mend_29 : decode cX5_mend 29 = .ok (.invokevirtual 76, 3) := by decide +kernel
theorem dX5_mend_32 : decode cX5_mend 32 = .ok (.ifCond .ne 10, 3) := by decide +kernel
theorem dX5_mend_35 : decode cX5_mend 35 = .ok (.aload_n 0, 1) := by decide +kernel
theorem dX5_mend_36 : decode cX5_mend 36 = .ok (.getfield 31, 3) := by decide +kernel
theorem dX5_mend_39 : decode cX5_mend 39 = .ok (.iload_n 1, 1) := by decide +kernel
theorem dX5_mend_40 : decode cX5_mend 40 = .ok (.iload_n 2, 1) := by decide +kernel
theorem dX5_mend_41 : decode cX5_mend 41 = .ok (.iastore, 1) := by decide +kernel
theorem dX5_mend_42 : decode cX5_mend 42 = .ok (.aload_n 0, 1) := by decide +kernel
theorem dX5_mend_43 : decode cX5_mend 43 = .ok (.aload_n 0, 1) := by decide +kernel
theorem dX5_mend_44 : decode cX5_mend 44 = .ok (.getfield 34, 3) := by decide +kernel
theorem dX5_mend_47 : decode cX5_mend 47 = .ok (.iload_n 1, 1) := by decide +kernel
theorem dX5_mend_48 : decode cX5_mend 48 = .ok (.iaload, 1) := by decide +kernel
theorem dX5_mend_49 : decode cX5_mend 49 = .ok (.iload 4, 2) := by decide +kernel
theorem dX5_mend_51 : decode cX5_mend 51 = .ok (.invokevirtual 80, 3) := by decide +kernel
theorem dX5_mend_54 : decode cX5_mend 54 = .ok (.ifCond .ne 10, 3) := by decide +kernel
theorem dX5_mend_57 : decode cX5_mend 57 = .ok (.aload_n 0, 1) := by decide +kernel
theorem dX5_mend_58 : decode cX5_mend 58 = .ok (.getfield 34, 3) := by decide +kernel
theorem dX5_mend_61 : decode cX5_mend 61 = .ok (.iload_n 1, 1) := by decide +kernel
theorem dX5_mend_62 : decode cX5_mend 62 = .ok (.iload_n 3, 1) := by decide +kernel
theorem dX5_mend_63 : decode cX5_mend 63 = .ok (.iastore, 1) := by decide +kernel
theorem dX5_mend_64 : decode cX5_mend 64 = .ok (.iconst 1, 1) := by decide +kernel
theorem dX5_mend_65 : decode cX5_mend 65 = .ok (.ireturn, 1) := by decide +kernel
theorem dX5_noteBroken_0 : decode cX5_noteBroken 0 = .ok (.aload_n 0, 1) := by decide +kernel
theorem dX5_noteBroken_1 : decode cX5_noteBroken 1 = .ok (.getfield 60, 3) := by decide +kernel
theorem dX5_noteBroken_4 : decode cX5_noteBroken 4 = .ok (.bipush 40, 2) := by decide +kernel
theorem dX5_noteBroken_6 : decode cX5_noteBroken 6 = .ok (.if_icmp .ge 23, 3) := by decide +kernel
theorem dX5_noteBroken_9 : decode cX5_noteBroken 9 = .ok (.aload_n 0, 1) := by decide +kernel
theorem dX5_noteBroken_10 : decode cX5_noteBroken 10 = .ok (.getfield 57, 3) := by decide +kernel
theorem dX5_noteBroken_13 : decode cX5_noteBroken 13 = .ok (.aload_n 0, 1) := by decide +kernel
theorem dX5_noteBroken_14 : decode cX5_noteBroken 14 = .ok (.getfield 60, 3) := by decide +kernel
theorem dX5_noteBroken_17 : decode cX5_noteBroken 17 = .ok (.iload_n 1, 1) := by decide +kernel
theorem dX5_noteBroken_18 : decode cX5_noteBroken 18 = .ok (.iastore, 1) := by decide +kernel
theorem dX5_noteBroken_19 : decode cX5_noteBroken 19 = .ok (.aload_n 0, 1) := by decide +kernel
theorem dX5_noteBroken_20 : decode cX5_noteBroken 20 = .ok (.dup, 1) := by decide +kernel
theorem dX5_noteBroken_21 : decode cX5_noteBroken 21 = .ok (.getfield 60, 3) := by decide +kernel
theorem dX5_noteBroken_24 : decode cX5_noteBroken 24 = .ok (.iconst 1, 1) := by decide +kernel
theorem dX5_noteBroken_25 : decode cX5_noteBroken 25 = .ok (.iadd, 1) := by decide +kernel
theorem dX5_noteBroken_26 : decode cX5_noteBroken 26 = .ok (.putfield 60, 3) := by decide +kernel
theorem dX5_noteBroken_29 : decode cX5_noteBroken 29 = .ok (.return_, 1) := by decide +kernel
end
section
theorem dX6_init_0 : decode cX6_init 0 = .ok (.aload_n 0, 1) := by decide +kernel
theorem dX6_init_1 : decode cX6_init 1 = .ok (.invokespecial 1, 3) := by decide +kernel
theorem dX6_init_4 : decode cX6_init 4 = .ok (.aload_n 0, 1) := by decide +kernel
theorem dX6_init_5 : decode cX6_init 5 = .ok (.new 7, 3) := by decide +kernel
theorem dX6_init_8 : decode cX6_init 8 = .ok (.dup, 1) := by decide +kernel
theorem dX6_init_9 : decode cX6_init 9 = .ok (.invokespecial 9, 3) := by decide +kernel
theorem dX6_init_12 : decode cX6_init 12 = .ok (.putfield 10, 3) := by decide +kernel
theorem dX6_init_15 : decode cX6_init 15 = .ok (.aload_n 0, 1) := by decide +kernel
theorem dX6_init_16 : decode cX6_init 16 = .ok (.new 16, 3) := by decide +kernel
theorem dX6_init_19 : decode cX6_init 19 = .ok (.dup, 1) := by decide +kernel
theorem dX6_init_20 : decode cX6_init 20 = .ok (.invokespecial 18, 3) := by decide +kernel
theorem dX6_init_23 : decode cX6_init 23 = .ok (.putfield 19, 3) := by decide +kernel
theorem dX6_init_26 : decode cX6_init 26 = .ok (.aload_n 0, 1) := by decide +kernel
theorem dX6_init_27 : decode cX6_init 27 = .ok (.new 23, 3) := by decide +kernel
theorem dX6_init_30 : decode cX6_init 30 = .ok (.dup, 1) := by decide +kernel
theorem dX6_init_31 : decode cX6_init 31 = .ok (.invokespecial 25, 3) := by decide +kernel
theorem dX6_init_34 : decode cX6_init 34 = .ok (.putfield 26, 3) := by decide +kernel
theorem dX6_init_37 : decode cX6_init 37 = .ok (.aload_n 0, 1) := by decide +kernel
theorem dX6_init_38 : decode cX6_init 38 = .ok (.new 30, 3) := by decide +kernel
theorem dX6_init_41 : decode cX6_init 41 = .ok (.dup, 1) := by decide +kernel
theorem dX6_init_42 : decode cX6_init 42 = .ok (.aload_n 0, 1) := by decide +kernel
theorem dX6_init_43 : decode cX6_init 43 = .ok (.getfield 10, 3) := by decide +kernel
theorem dX6_init_46 : decode cX6_init 46 = .ok (.aload_n 0, 1) := by decide +kernel
theorem dX6_init_47 : decode cX6_init 47 = .ok (.getfield 19, 3) := by decide +kernel
theorem dX6_init_50 : decode cX6_init 50 = .ok (.invokespecial 32, 3) := by decide +kernel
theorem dX6_init_53 : decode cX6_init 53 = .ok (.putfield 35, 3) := by decide +kernel
theorem dX6_init_56 : decode cX6_init 56 = .ok (.aload_n 0, 1) := by decide +kernel
theorem dX6_init_57 : decode cX6_init 57 = .ok (.new 39, 3) := by decide +kernel
theorem dX6_init_60 : decode cX6_init 60 = .ok (.dup, 1) := by decide +kernel
theorem dX6_init_61 : decode cX6_init 61 = .ok (.aload_n 0, 1) := by decide +kernel
theorem dX6_init_62 : decode cX6_init 62 = .ok (.getfield 10, 3) := by decide +kernel
theorem dX6_init_65 : decode cX6_init 65 = .ok (.aload_n 0, 1) := by decide +kernel
theorem dX6_init_66 : decode cX6_init 66 = .ok (.getfield 19, 3) := by decide +kernel
theorem dX6_init_69 : decode cX6_init 69 = .ok (.invokespecial 41, 3) := by decide +kernel
theorem dX6_init_72 : decode cX6_init 72 = .ok (.putfield 42, 3) := by decide +kernel
theorem dX6_init_75 : decode cX6_init 75 = .ok (.aload_n 0, 1) := by decide +kernel
theorem dX6_init_76 : decode cX6_init 76 = .ok (.new 46, 3) := by decide +kernel
theorem dX6_init_79 : decode cX6_init 79 = .ok (.dup, 1) := by decide +kernel
theorem dX6_init_80 : decode cX6_init 80 = .ok (.invokespecial 48, 3) := by decide +kernel
theorem dX6_init_83 : decode cX6_init 83 = .ok (.putfield 49, 3) := by decide +kernel
theorem dX6_init_86 : decode cX6_init 86 = .ok (.aload_n 0, 1) := by decide +kernel
theorem dX6_init_87 : decode cX6_init 87 = .ok (.bipush 24, 2) := by decide +kernel
theorem dX6_init_89 : decode cX6_init 89 = .ok (.newarray .int, 2) := by decide +kernel
theorem dX6_init_91 : decode cX6_init 91 = .ok (.putfield 53, 3) := by decide +kernel
theorem dX6_init_94 : decode cX6_init 94 = .ok (.aload_n 0, 1) := by decide +kernel
theorem dX6_init_95 : decode cX6_init 95 = .ok (.iconst 0, 1) := by decide +kernel
theorem dX6_init_96 : decode cX6_init 96 = .ok (.putfield 57, 3) := by decide +kernel
theorem dX6_init_99 : decode cX6_init 99 = .ok (.return_, 1) := by decide +kernel
theorem dX6_half_0 : decode cX6_half 0 = .ok (.iload_n 1, 1) := by decide +kernel
theorem dX6_half_1 : decode cX6_half 1 = .ok (.iconst 1, 1) := by decide +kernel
theorem dX6_half_2 : decode cX6_half 2 = .ok (.bipush 8, 2) := by decide +kernel
theorem dX6_half_4 : decode cX6_half 4 = .ok (.invokestatic 61, 3) := by decide +kernel
theorem dX6_half_7 : decode cX6_half 7 = .ok (.ifCond .eq 20, 3) := by decide +kernel
theorem dX6_half_10 : decode cX6_half 10 = .ok (.iload_n 2, 1) := by decide +kernel
theorem dX6_half_11 : decode cX6_half 11 = .ok (.iload_n 1, 1) := by decide +kernel
theorem dX6_half_12 : decode cX6_half 12 = .ok (.invokestatic 65, 3) := by decide +kernel
theorem dX6_half_15 : decode cX6_half 15 = .ok (.ifCond .eq 12, 3) := by decide +kernel
theorem dX6_half_18 : decode cX6_half 18 = .ok (.iload_n 3, 1) := by decide +kernel
theorem dX6_half_19 : decode cX6_half 19 = .ok (.iconst (-1), 1) := by decide +kernel
theorem dX6_half_20 : decode cX6_half 20 = .ok (.iload_n 1, 1) := by decide +kernel
theorem dX6_half_21 : decode cX6_half 21 = .ok (.invokestatic 61, 3) := by decide +kernel
theorem dX6_half_24 : decode cX6_half 24 = .ok (.ifCond .ne 6, 3) := by decide +kernel
theorem dX6_half_27 : decode cX6_half 27 = .ok (.bipush (-2), 2) := by decide +kernel
theorem dX6_half_29 : decode cX6_half 29 = .ok (.ireturn, 1) := by decide +kernel
theorem dX6_half_30 : decode cX6_half 30 = .ok (.aload_n 0, 1) := by decide +kernel
theorem dX6_half_31 : decode cX6_half 31 = .ok (.getfield 10, 3) := by decide +kernel
theorem dX6_half_34 : decode cX6_half 34 = .ok (.getfield 69, 3) := by decide +kernel
theorem dX6_half_37 : decode cX6_half 37 = .ok (.bipush 40, 2) := by decide +kernel
theorem dX6_half_39 : decode cX6_half 39 = .ok (.if_icmp .lt 6, 3) := by decide +kernel
theorem dX6_half_42 : decode cX6_half 42 = .ok (.bipush (-4), 2) := by decide +kernel
theorem dX6_half_44 : decode cX6_half 44 = .ok (.ireturn, 1) := by decide +kernel
theorem dX6_half_45 : decode cX6_half 45 = .ok (.aload_n 0, 1) := by decide +kernel
theorem dX6_half_46 : decode cX6_half 46 = .ok (.getfield 10, 3) := by decide +kernel
theorem dX6_half_49 : decode cX6_half 49 = .ok (.iload_n 1, 1) := by decide +kernel
theorem dX6_half_50 : decode cX6_half 50 = .ok (.iload_n 2, 1) := by decide +kernel
theorem dX6_half_51 : decode cX6_half 51 = .ok (.iload_n 3, 1) := by decide +kernel
theorem dX6_half_52 : decode cX6_half 52 = .ok (.invokevirtual 72, 3) := by decide +kernel
theorem dX6_half_55 : decode cX6_half 55 = .ok (.ireturn, 1) := by decide +kernel
theorem dX6_name_0 : decode cX6_name 0 = .ok (.iload_n 1, 1) := by decide +kernel
theorem dX6_name_1 : decode cX6_name 1 = .ok (.iconst 0, 1) := by decide +kernel
theorem dX6_name_2 : decode cX6_name 2 = .ok (.bipush 9, 2) := by decide +kernel
theorem dX6_name_4 : decode cX6_name 4 = .ok (.invokestatic 61, 3) := by decide +kernel
theorem dX6_name_7 : decode cX6_name 7 = .ok (.ifCond .ne 5, 3) := by decide +kernel
theorem dX6_name_10 : decode cX6_name 10 = .ok (.iconst (-1), 1) := by decide +kernel
theorem dX6_name_11 : decode cX6_name 11 = .ok (.ireturn, 1) := by decide +kernel
theorem dX6_name_12 : decode cX6_name 12 = .ok (.iload_n 2, 1) := by decide +kernel
theorem dX6_name_13 : decode cX6_name 13 = .ok (.iconst 1, 1) := by decide +kernel
theorem dX6_name_14 : decode cX6_name 14 = .ok (.iconst 4, 1) := by decide +kernel
theorem dX6_name_15 : decode cX6_name 15 = .ok (.invokestatic 61, 3) := by decide +kernel
theorem dX6_name_18 : decode cX6_name 18 = .ok (.ifCond .eq 11, 3) := by decide +kernel
theorem dX6_name_21 : decode cX6_name 21 = .ok (.iload_n 3, 1) := by decide +kernel
theorem dX6_name_22 : decode cX6_name 22 = .ok (.iload_n 2, 1) := by decide +kernel
theorem dX6_name_23 : decode cX6_name 23 = .ok (.invokestatic 65, 3) := by decide +kernel
theorem dX6_name_26 : decode cX6_name 26 = .ok (.ifCond .ne 6, 3) := by decide +kernel
theorem dX6_name_29 : decode cX6_name 29 = .ok (.bipush (-2), 2) := by decide +kernel
theorem dX6_name_31 : decode cX6_name 31 = .ok (.ireturn, 1) := by decide +kernel
theorem dX6_name_32 : decode cX6_name 32 = .ok (.aload_n 0, 1) := by decide +kernel
theorem dX6_name_33 : decode cX6_name 33 = .ok (.getfield 10, 3) := by decide +kernel
theorem dX6_name_36 : decode cX6_name 36 = .ok (.getfield 76, 3) := by decide +kernel
theorem dX6_name_39 : decode cX6_name 39 = .ok (.iload_n 1, 1) := by decide +kernel
theorem dX6_name_40 : decode cX6_name 40 = .ok (.iaload, 1) := by decide +kernel
theorem dX6_name_41 : decode cX6_name 41 = .ok (.istore 4, 2) := by decide +kernel
theorem dX6_name_43 : decode cX6_name 43 = .ok (.aload_n 0, 1) := by decide +kernel
theorem dX6_name_44 : decode cX6_name 44 = .ok (.getfield 10, 3) := by decide +kernel
theorem dX6_name_47 : decode cX6_name 47 = .ok (.getfield 76, 3) := by decide +kernel
theorem dX6_name_50 : decode cX6_name 50 = .ok (.iload_n 1, 1) := by decide +kernel
theorem dX6_name_51 : decode cX6_name 51 = .ok (.iload_n 2, 1) := by decide +kernel
theorem dX6_name_52 : decode cX6_name 52 = .ok (.iastore, 1) := by decide +kernel
theorem dX6_name_53 : decode cX6_name 53 = .ok (.aload_n 0, 1) := by decide +kernel
theorem dX6_name_54 : decode cX6_name 54 = .ok (.getfield 10, 3) := by decide +kernel
theorem dX6_name_57 : decode cX6_name 57 = .ok (.getfield 79, 3) := by decide +kernel
theorem dX6_name_60 : decode cX6_name 60 = .ok (.iload_n 1, 1) := by decide +kernel
theorem dX6_name_61 : decode cX6_name 61 = .ok (.iload_n 3, 1) := by decide +kernel
theorem dX6_name_62 : decode cX6_name 62 = .ok (.iastore, 1) := by decide +kernel
theorem dX6_name_63 : decode cX6_name 63 = .ok (.iload 4, 2) := by decide +kernel
theorem dX6_name_65 : decode cX6_name 65 = .ok (.ireturn, 1) := by decide +kernel
theorem dX6_line_0 : decode cX6_line 0 = .ok (.aload_n 0, 1) := by decide +kernel
theorem dX6_line_1 : decode cX6_line 1 = .ok (.getfield 10, 3) := by decide +kernel
theorem dX6_line_4 : decode cX6_line 4 = .ok (.iload_n 1, 1) := by decide +kernel
theorem dX6_line_5 : decode cX6_line 5 = .ok (.invokevirtual 82, 3) := by decide +kernel
theorem dX6_line_8 : decode cX6_line 8 = .ok (.ifCond .eq 14, 3) := by decide +kernel
theorem dX6_line_11 : decode cX6_line 11 = .ok (.aload_n 0, 1) := by decide +kernel
theorem dX6_line_12 : decode cX6_line 12 = .ok (.getfield 10, 3) := by decide +kernel
theorem dX6_line_15 : decode cX6_line 15 = .ok (.iload_n 2, 1) := by decide +kernel
theorem dX6_line_16 : decode cX6_line 16 = .ok (.invokevirtual 82, 3) := by decide +kernel
theorem dX6_line_19 : decode cX6_line 19 = .ok (.ifCond .ne 5, 3) := by decide +kernel
theorem dX6_line_22 : decode cX6_line 22 = .ok (.iconst (-1), 1) := by decide +kernel
theorem dX6_line_23 : decode cX6_line 23 = .ok (.ireturn, 1) := by decide +kernel
theorem dX6_line_24 : decode cX6_line 24 = .ok (.iload_n 3, 1) := by decide +kernel
theorem dX6_line_25 : decode cX6_line 25 = .ok (.iconst 0, 1) := by decide +kernel
theorem dX6_line_26 : decode cX6_line 26 = .ok (.bipush 7, 2) := by decide +kernel
theorem dX6_line_28 : decode cX6_line 28 = .ok (.invokestatic 61, 3) := by decide +kernel
theorem dX6_line_31 : decode cX6_line 31 = .ok (.ifCond .eq 14, 3) := by decide +kernel
theorem dX6_line_34 : decode cX6_line 34 = .ok (.iload 4, 2) := by decide +kernel
theorem dX6_line_36 : decode cX6_line 36 = .ok (.iconst 0, 1) := by decide +kernel
theorem dX6_line_37 : decode cX6_line 37 = .ok (.bipush 9, 2) := by decide +kernel
theorem dX6_line_39 : decode cX6_line 39 = .ok (.invokestatic 61, 3) := by decide +kernel
theorem dX6_line_42 : decode cX6_line 42 = .ok (.ifCond .ne 5, 3) := by decide +kernel
theorem dX6_line_45 : decode cX6_line 45 = .ok (.iconst (-1), 1) := by decide +kernel
theorem dX6_line_46 : decode cX6_line 46 = .ok (.ireturn, 1) := by decide +kernel
theorem dX6_line_47 : decode cX6_line 47 = .ok (.iload 5, 2) := by decide +kernel
theorem dX6_line_49 : decode cX6_line 49 = .ok (.iconst 0, 1) := by decide +kernel
theorem dX6_line_50 : decode cX6_line 50 = .ok (.iconst 1, 1) := by decide +kernel
theorem dX6_line_51 : decode cX6_line 51 = .ok (.invokestatic 61, 3) := by decide +kernel
theorem dX6_line_54 : decode cX6_line 54 = .ok (.ifCond .ne 6, 3) := by decide +kernel
theorem dX6_line_57 : decode cX6_line 57 = .ok (.bipush (-2), 2) := by decide +kernel
theorem dX6_line_59 : decode cX6_line 59 = .ok (.ireturn, 1) := by decide +kernel
theorem dX6_line_60 : decode cX6_line 60 = .ok (.aload_n 0, 1) := by decide +kernel
theorem dX6_line_61 : decode cX6_line 61 = .ok (.getfield 10, 3) := by decide +kernel
theorem dX6_line_64 : decode cX6_line 64 = .ok (.getfield 86, 3) := by decide +kernel
theorem dX6_line_67 : decode cX6_line 67 = .ok (.bipush 40, 2) := by decide +kernel
theorem dX6_line_69 : decode cX6_line 69 = .ok (.if_icmp .lt 6, 3) := by decide +kernel
theorem dX6_line_72 : decode cX6_line 72 = .ok (.bipush (-4), 2) := by decide +kernel
theorem dX6_line_74 : decode cX6_line 74 = .ok (.ireturn, 1) := by decide +kernel
theorem dX6_line_75 : decode cX6_line 75 = .ok (.aload_n 0, 1) := by decide +kernel
theorem dX6_line_76 : decode cX6_line 76 = .ok (.getfield 10, 3) := by decide +kernel
theorem dX6_line_79 : decode cX6_line 79 = .ok (.iload_n 1, 1) := by decide +kernel
theorem dX6_line_80 : decode cX6_line 80 = .ok (.iload_n 2, 1) := by decide +kernel
theorem dX6_line_81 : decode cX6_line 81 = .ok (.iload_n 3, 1) := by decide +kernel
theorem dX6_line_82 : decode cX6_line 82 = .ok (.iload 4, 2) := by decide +kernel
theorem dX6_line_84 : decode cX6_line 84 = .ok (.iload 5, 2) := by decide +kernel
theorem dX6_line_86 : decode cX6_line 86 = .ok (.invokevirtual 89, 3) := by decide +kernel
theorem dX6_line_89 : decode cX6_line 89 = .ok (.ireturn, 1) := by decide +kernel
theorem dX6_metre_0 : decode cX6_metre 0 = .ok (.iload_n 1, 1) := by decide +kernel
theorem dX6_metre_1 : decode cX6_metre 1 = .ok (.iconst 0, 1) := by decide +kernel
theorem dX6_metre_2 : decode cX6_metre 2 = .ok (.iconst 2, 1) := by decide +kernel
theorem dX6_metre_3 : decode cX6_metre 3 = .ok (.invokestatic 61, 3) := by decide +kernel
theorem dX6_metre_6 : decode cX6_metre 6 = .ok (.ifCond .ne 5, 3) := by decide +kernel
theorem dX6_metre_9 : decode cX6_metre 9 = .ok (.iconst (-1), 1) := by decide +kernel
theorem dX6_metre_10 : decode cX6_metre 10 = .ok (.ireturn, 1) := by decide +kernel
theorem dX6_metre_11 : decode cX6_metre 11 = .ok (.iload_n 1, 1) := by decide +kernel
theorem dX6_metre_12 : decode cX6_metre 12 = .ok (.iconst 2, 1) := by decide +kernel
theorem dX6_metre_13 : decode cX6_metre 13 = .ok (.if_icmp .ne 15, 3) := by decide +kernel
theorem dX6_metre_16 : decode cX6_metre 16 = .ok (.iload_n 2, 1) := by decide +kernel
theorem dX6_metre_17 : decode cX6_metre 17 = .ok (.bipush 24, 2) := by decide +kernel
theorem dX6_metre_19 : decode cX6_metre 19 = .ok (.invokestatic 65, 3) := by decide +kernel
theorem dX6_metre_22 : decode cX6_metre 22 = .ok (.ifCond .ne 19, 3) := by decide +kernel
theorem dX6_metre_25 : decode cX6_metre 25 = .ok (.goto 13, 3) := by decide +kernel
theorem dX6_metre_28 : decode cX6_metre 28 = .ok (.iload_n 2, 1) := by decide +kernel
theorem dX6_metre_29 : decode cX6_metre 29 = .ok (.iconst 1, 1) := by decide +kernel
theorem dX6_metre_30 : decode cX6_metre 30 = .ok (.bipush 12, 2) := by decide +kernel
theorem dX6_metre_32 : decode cX6_metre 32 = .ok (.invokestatic 61, 3) := by decide +kernel
theorem dX6_metre_35 : decode cX6_metre 35 = .ok (.ifCond .ne 6, 3) := by decide +kernel
theorem dX6_metre_38 : decode cX6_metre 38 = .ok (.bipush (-2), 2) := by decide +kernel
theorem dX6_metre_40 : decode cX6_metre 40 = .ok (.ireturn, 1) := by decide +kernel
theorem dX6_metre_41 : decode cX6_metre 41 = .ok (.aload_n 0, 1) := by decide +kernel
theorem dX6_metre_42 : decode cX6_metre 42 = .ok (.getfield 10, 3) := by decide +kernel
theorem dX6_metre_45 : decode cX6_metre 45 = .ok (.getfield 93, 3) := by decide +kernel
theorem dX6_metre_48 : decode cX6_metre 48 = .ok (.iload_n 1, 1) := by decide +kernel
theorem dX6_metre_49 : decode cX6_metre 49 = .ok (.iaload, 1) := by decide +kernel
theorem dX6_metre_50 : decode cX6_metre 50 = .ok (.istore_n 3, 1) := by decide +kernel
theorem dX6_metre_51 : decode cX6_metre 51 = .ok (.aload_n 0, 1) := by decide +kernel
theorem dX6_metre_52 : decode cX6_metre 52 = .ok (.getfield 10, 3) := by decide +kernel
theorem dX6_metre_55 : decode cX6_metre 55 = .ok (.getfield 93, 3) := by decide +kernel
theorem dX6_metre_58 : decode cX6_metre 58 = .ok (.iload_n 1, 1) := by decide +kernel
theorem dX6_metre_59 : decode cX6_metre 59 = .ok (.iload_n 2, 1) := by decide +kernel
theorem dX6_metre_60 : decode cX6_metre 60 = .ok (.iastore, 1) := by decide +kernel
theorem dX6_metre_61 : decode cX6_metre 61 = .ok (.iload_n 3, 1) := by decide +kernel
theorem dX6_metre_62 : decode cX6_metre 62 = .ok (.ireturn, 1) := by decide +kernel
theorem dX6_told_0 : decode cX6_told 0 = .ok (.aload_n 0, 1) := by decide +kernel
theorem dX6_told_1 : decode cX6_told 1 = .ok (.getfield 10, 3) := by decide +kernel
theorem dX6_told_4 : decode cX6_told 4 = .ok (.iload_n 1, 1) := by decide +kernel
theorem dX6_told_5 : decode cX6_told 5 = .ok (.invokevirtual 96, 3) := by decide +kernel
theorem dX6_told_8 : decode cX6_told 8 = .ok (.ifCond .ne 5, 3) := by decide +kernel
theorem dX6_told_11 : decode cX6_told 11 = .ok (.iconst (-1), 1) := by decide +kernel
theorem dX6_told_12 : decode cX6_told 12 = .ok (.ireturn, 1) := by decide +kernel
theorem dX6_told_13 : decode cX6_told 13 = .ok (.iload_n 2, 1) := by decide +kernel
theorem dX6_told_14 : decode cX6_told 14 = .ok (.tableswitch 133 0 7 #[46, 56, 66, 76, 86, 98, 115, 124], 46) := by decide +kernel
theorem dX6_told_60 : decode cX6_told 60 = .ok (.aload_n 0, 1) := by decide +kernel
theorem dX6_told_61 : decode cX6_told 61 = .ok (.getfield 10, 3) := by decide +kernel
theorem dX6_told_64 : decode cX6_told 64 = .ok (.getfield 99, 3) := by decide +kernel
theorem dX6_told_67 : decode cX6_told 67 = .ok (.iload_n 1, 1) := by decide +kernel
theorem dX6_told_68 : decode cX6_told 68 = .ok (.iaload, 1) := by decide +kernel
theorem dX6_told_69 : decode cX6_told 69 = .ok (.ireturn, 1) := by decide +kernel
theorem dX6_told_70 : decode cX6_told 70 = .ok (.aload_n 0, 1) := by decide +kernel
theorem dX6_told_71 : decode cX6_told 71 = .ok (.getfield 10, 3) := by decide +kernel
theorem dX6_told_74 : decode cX6_told 74 = .ok (.getfield 102, 3) := by decide +kernel
theorem dX6_told_77 : decode cX6_told 77 = .ok (.iload_n 1, 1) := by decide +kernel
theorem dX6_told_78 : decode cX6_told 78 = .ok (.iaload, 1) := by decide +kernel
theorem dX6_told_79 : decode cX6_told 79 = .ok (.ireturn, 1) := by decide +kernel
theorem dX6_told_80 : decode cX6_told 80 = .ok (.aload_n 0, 1) := by decide +kernel
theorem dX6_told_81 : decode cX6_told 81 = .ok (.getfield 10, 3) := by decide +kernel
theorem dX6_told_84 : decode cX6_told 84 = .ok (.getfield 105, 3) := by decide +kernel
theorem dX6_told_87 : decode cX6_told 87 = .ok (.iload_n 1, 1) := by decide +kernel
theorem dX6_told_88 : decode cX6_told 88 = .ok (.iaload, 1) := by decide +kernel
theorem dX6_told_89 : decode cX6_told 89 = .ok (.ireturn, 1) := by decide +kernel
theorem dX6_told_90 : decode cX6_told 90 = .ok (.aload_n 0, 1) := by decide +kernel
theorem dX6_told_91 : decode cX6_told 91 = .ok (.getfield 10, 3) := by decide +kernel
theorem dX6_told_94 : decode cX6_told 94 = .ok (.getfield 108, 3) := by decide +kernel
theorem dX6_told_97 : decode cX6_told 97 = .ok (.iload_n 1, 1) := by decide +kernel
theorem dX6_told_98 : decode cX6_told 98 = .ok (.iaload, 1) := by decide +kernel
theorem dX6_told_99 : decode cX6_told 99 = .ok (.ireturn, 1) := by decide +kernel
theorem dX6_told_100 : decode cX6_told 100 = .ok (.aload_n 0, 1) := by decide +kernel
theorem dX6_told_101 : decode cX6_told 101 = .ok (.getfield 10, 3) := by decide +kernel
theorem dX6_told_104 : decode cX6_told 104 = .ok (.getfield 111, 3) := by decide +kernel
theorem dX6_told_107 : decode cX6_told 107 = .ok (.iload_n 1, 1) := by decide +kernel
theorem dX6_told_108 : decode cX6_told 108 = .ok (.invokestatic 115, 3) := by decide +kernel
theorem dX6_told_111 : decode cX6_told 111 = .ok (.ireturn, 1) := by decide +kernel
theorem dX6_told_112 : decode cX6_told 112 = .ok (.aload_n 0, 1) := by decide +kernel
theorem dX6_told_113 : decode cX6_told 113 = .ok (.getfield 10, 3) := by decide +kernel
theorem dX6_told_116 : decode cX6_told 116 = .ok (.iload_n 1, 1) := by decide +kernel
theorem dX6_told_117 : decode cX6_told 117 = .ok (.invokevirtual 119, 3) := by decide +kernel
theorem dX6_told_120 : decode cX6_told 120 = .ok (.ifCond .eq 7, 3) := by decide +kernel
theorem dX6_told_123 : decode cX6_told 123 = .ok (.iconst 1, 1) := by decide +kernel
theorem dX6_told_124 : decode cX6_told 124 = .ok (.goto 4, 3) := by decide +kernel
theorem dX6_told_127 : decode cX6_told 127 = .ok (.iconst 0, 1) := by decide +kernel
theorem dX6_told_128 : decode cX6_told 128 = .ok (.ireturn, 1) := by decide +kernel
theorem dX6_told_129 : decode cX6_told 129 = .ok (.aload_n 0, 1) := by decide +kernel
theorem dX6_told_130 : decode cX6_told 130 = .ok (.getfield 10, 3) := by decide +kernel
theorem dX6_told_133 : decode cX6_told 133 = .ok (.iload_n 1, 1) := by decide +kernel
theorem dX6_told_134 : decode cX6_told 134 = .ok (.invokevirtual 122, 3) := by decide +kernel
theorem dX6_told_137 : decode cX6_told 137 = .ok (.ireturn, 1) := by decide +kernel
theorem dX6_told_138 : decode cX6_told 138 = .ok (.aload_n 0, 1) := by decide +kernel
theorem dX6_told_139 : decode cX6_told 139 = .ok (.getfield 10, 3) := by decide +kernel
theorem dX6_told_142 : decode cX6_told 142 = .ok (.iload_n 1, 1) := by decide +kernel
theorem dX6_told_143 : decode cX6_told 143 = .ok (.invokevirtual 126, 3) := by decide +kernel
theorem dX6_told_146 : decode cX6_told 146 = .ok (.ireturn, 1) := by decide +kernel
theorem dX6_told_147 : decode cX6_told 147 = .ok (.iconst (-1), 1) := by decide +kernel
theorem dX6_told_148 : decode cX6_told 148 = .ok (.ireturn, 1) := by decide +kernel
theorem dX6_swap_0 : decode cX6_swap 0 = .ok (.iload_n 1, 1) := by decide +kernel
theorem dX6_swap_1 : decode cX6_swap 1 = .ok (.iconst 0, 1) := by decide +kernel
theorem dX6_swap_2 : decode cX6_swap 2 = .ok (.bipush 9, 2) := by decide +kernel
theorem dX6_swap_4 : decode cX6_swap 4 = .ok (.invokestatic 61, 3) := by decide +kernel
theorem dX6_swap_7 : decode cX6_swap 7 = .ok (.ifCond .eq 13, 3) := by decide +kernel
theorem dX6_swap_10 : decode cX6_swap 10 = .ok (.iload_n 2, 1) := by decide +kernel
theorem dX6_swap_11 : decode cX6_swap 11 = .ok (.iconst 0, 1) := by decide +kernel
theorem dX6_swap_12 : decode cX6_swap 12 = .ok (.bipush 9, 2) := by decide +kernel
theorem dX6_swap_14 : decode cX6_swap 14 = .ok (.invokestatic 61, 3) := by decide +kernel
theorem dX6_swap_17 : decode cX6_swap 17 = .ok (.ifCond .ne 5, 3) := by decide +kernel
theorem dX6_swap_20 : decode cX6_swap 20 = .ok (.iconst (-1), 1) := by decide +kernel
theorem dX6_swap_21 : decode cX6_swap 21 = .ok (.ireturn, 1) := by decide +kernel
theorem dX6_swap_22 : decode cX6_swap 22 = .ok (.iload_n 1, 1) := by decide +kernel
theorem dX6_swap_23 : decode cX6_swap 23 = .ok (.iload_n 2, 1) := by decide +kernel
theorem dX6_swap_24 : decode cX6_swap 24 = .ok (.if_icmp .ne 6, 3) := by decide +kernel
theorem dX6_swap_27 : decode cX6_swap 27 = .ok (.bipush (-2), 2) := by decide +kernel
theorem dX6_swap_29 : decode cX6_swap 29 = .ok (.ireturn, 1) := by decide +kernel
theorem dX6_swap_30 : decode cX6_swap 30 = .ok (.aload_n 0, 1) := by decide +kernel
theorem dX6_swap_31 : decode cX6_swap 31 = .ok (.getfield 10, 3) := by decide +kernel
theorem dX6_swap_34 : decode cX6_swap 34 = .ok (.iload_n 1, 1) := by decide +kernel
theorem dX6_swap_35 : decode cX6_swap 35 = .ok (.iload_n 2, 1) := by decide +kernel
theorem dX6_swap_36 : decode cX6_swap 36 = .ok (.invokevirtual 129, 3) := by decide +kernel
theorem dX6_swap_39 : decode cX6_swap 39 = .ok (.ireturn, 1) := by decide +kernel
theorem dX6_broken_0 : decode cX6_broken 0 = .ok (.aload_n 0, 1) := by decide +kernel
theorem dX6_broken_1 : decode cX6_broken 1 = .ok (.getfield 10, 3) := by decide +kernel
theorem dX6_broken_4 : decode cX6_broken 4 = .ok (.getfield 133, 3) := by decide +kernel
theorem dX6_broken_7 : decode cX6_broken 7 = .ok (.aload_n 0, 1) := by decide +kernel
theorem dX6_broken_8 : decode cX6_broken 8 = .ok (.getfield 10, 3) := by decide +kernel
theorem dX6_broken_11 : decode cX6_broken 11 = .ok (.getfield 136, 3) := by decide +kernel
theorem dX6_broken_14 : decode cX6_broken 14 = .ok (.iload_n 1, 1) := by decide +kernel
theorem dX6_broken_15 : decode cX6_broken 15 = .ok (.invokestatic 139, 3) := by decide +kernel
theorem dX6_broken_18 : decode cX6_broken 18 = .ok (.ireturn, 1) := by decide +kernel
theorem dX6_feed_0 : decode cX6_feed 0 = .ok (.iload_n 3, 1) := by decide +kernel
theorem dX6_feed_1 : decode cX6_feed 1 = .ok (.iconst 1, 1) := by decide +kernel
theorem dX6_feed_2 : decode cX6_feed 2 = .ok (.bipush 8, 2) := by decide +kernel
theorem dX6_feed_4 : decode cX6_feed 4 = .ok (.invokestatic 61, 3) := by decide +kernel
theorem dX6_feed_7 : decode cX6_feed 7 = .ok (.ifCond .ne 6, 3) := by decide +kernel
theorem dX6_feed_10 : decode cX6_feed 10 = .ok (.bipush (-2), 2) := by decide +kernel
theorem dX6_feed_12 : decode cX6_feed 12 = .ok (.ireturn, 1) := by decide +kernel
theorem dX6_feed_13 : decode cX6_feed 13 = .ok (.aload_n 0, 1) := by decide +kernel
theorem dX6_feed_14 : decode cX6_feed 14 = .ok (.getfield 19, 3) := by decide +kernel
theorem dX6_feed_17 : decode cX6_feed 17 = .ok (.getfield 143, 3) := by decide +kernel
theorem dX6_feed_20 : decode cX6_feed 20 = .ok (.bipush 60, 2) := by decide +kernel
theorem dX6_feed_22 : decode cX6_feed 22 = .ok (.iload_n 3, 1) := by decide +kernel
theorem dX6_feed_23 : decode cX6_feed 23 = .ok (.isub, 1) := by decide +kernel
theorem dX6_feed_24 : decode cX6_feed 24 = .ok (.if_icmp .le 6, 3) := by decide +kernel
theorem dX6_feed_27 : decode cX6_feed 27 = .ok (.bipush (-4), 2) := by decide +kernel
theorem dX6_feed_29 : decode cX6_feed 29 = .ok (.ireturn, 1) := by decide +kernel
theorem dX6_feed_30 : decode cX6_feed 30 = .ok (.aload_n 0, 1) := by decide +kernel
theorem dX6_feed_31 : decode cX6_feed 31 = .ok (.getfield 19, 3) := by decide +kernel
theorem dX6_feed_34 : decode cX6_feed 34 = .ok (.lload_n 1, 1) := by decide +kernel
theorem dX6_feed_35 : decode cX6_feed 35 = .ok (.iload_n 3, 1) := by decide +kernel
theorem dX6_feed_36 : decode cX6_feed 36 = .ok (.invokevirtual 146, 3) := by decide +kernel
theorem dX6_feed_39 : decode cX6_feed 39 = .ok (.ireturn, 1) := by decide +kernel
theorem dX6_scene_0 : decode cX6_scene 0 = .ok (.aload_n 0, 1) := by decide +kernel
theorem dX6_scene_1 : decode cX6_scene 1 = .ok (.getfield 19, 3) := by decide +kernel
theorem dX6_scene_4 : decode cX6_scene 4 = .ok (.invokevirtual 149, 3) := by decide +kernel
theorem dX6_scene_7 : decode cX6_scene 7 = .ok (.ireturn, 1) := by decide +kernel
theorem dX6_hall_0 : decode cX6_hall 0 = .ok (.iload_n 1, 1) := by decide +kernel
theorem dX6_hall_1 : decode cX6_hall 1 = .ok (.iconst 0, 1) := by decide +kernel
theorem dX6_hall_2 : decode cX6_hall 2 = .ok (.iconst 3, 1) := by decide +kernel
theorem dX6_hall_3 : decode cX6_hall 3 = .ok (.invokestatic 61, 3) := by decide +kernel
theorem dX6_hall_6 : decode cX6_hall 6 = .ok (.ifCond .ne 6, 3) := by decide +kernel
theorem dX6_hall_9 : decode cX6_hall 9 = .ok (.bipush (-2), 2) := by decide +kernel
theorem dX6_hall_11 : decode cX6_hall 11 = .ok (.ireturn, 1) := by decide +kernel
theorem dX6_hall_12 : decode cX6_hall 12 = .ok (.aload_n 0, 1) := by decide +kernel
theorem dX6_hall_13 : decode cX6_hall 13 = .ok (.getfield 19, 3) := by decide +kernel
theorem dX6_hall_16 : decode cX6_hall 16 = .ok (.getfield 153, 3) := by decide +kernel
theorem dX6_hall_19 : decode cX6_hall 19 = .ok (.istore_n 2, 1) := by decide +kernel
theorem dX6_hall_20 : decode cX6_hall 20 = .ok (.aload_n 0, 1) := by decide +kernel
theorem dX6_hall_21 : decode cX6_hall 21 = .ok (.getfield 19, 3) := by decide +kernel
theorem dX6_hall_24 : decode cX6_hall 24 = .ok (.iload_n 1, 1) := by decide +kernel
theorem dX6_hall_25 : decode cX6_hall 25 = .ok (.putfield 153, 3) := by decide +kernel
theorem dX6_hall_28 : decode cX6_hall 28 = .ok (.iload_n 2, 1) := by decide +kernel
theorem dX6_hall_29 : decode cX6_hall 29 = .ok (.ireturn, 1) := by decide +kernel
theorem dX6_sing_0 : decode cX6_sing 0 = .ok (.aload_n 0, 1) := by decide +kernel
theorem dX6_sing_1 : decode cX6_sing 1 = .ok (.getfield 19, 3) := by decide +kernel
theorem dX6_sing_4 : decode cX6_sing 4 = .ok (.iload_n 1, 1) := by decide +kernel
theorem dX6_sing_5 : decode cX6_sing 5 = .ok (.invokevirtual 156, 3) := by decide +kernel
theorem dX6_sing_8 : decode cX6_sing 8 = .ok (.ifCond .eq 14, 3) := by decide +kernel
theorem dX6_sing_11 : decode cX6_sing 11 = .ok (.aload_n 0, 1) := by decide +kernel
theorem dX6_sing_12 : decode cX6_sing 12 = .ok (.getfield 26, 3) := by decide +kernel
theorem dX6_sing_15 : decode cX6_sing 15 = .ok (.iload_n 2, 1) := by decide +kernel
theorem dX6_sing_16 : decode cX6_sing 16 = .ok (.invokevirtual 159, 3) := by decide +kernel
theorem dX6_sing_19 : decode cX6_sing 19 = .ok (.ifCond .ne 5, 3) := by decide +kernel
theorem dX6_sing_22 : decode cX6_sing 22 = .ok (.iconst (-1), 1) := by decide +kernel
theorem dX6_sing_23 : decode cX6_sing 23 = .ok (.ireturn, 1) := by decide +kernel
theorem dX6_sing_24 : decode cX6_sing 24 = .ok (.iload_n 3, 1) := by decide +kernel
theorem dX6_sing_25 : decode cX6_sing 25 = .ok (.invokestatic 162, 3) := by decide +kernel
theorem dX6_sing_28 : decode cX6_sing 28 = .ok (.ifCond .eq 10, 3) := by decide +kernel
theorem dX6_sing_31 : decode cX6_sing 31 = .ok (.lload 4, 2) := by decide +kernel
theorem dX6_sing_33 : decode cX6_sing 33 = .ok (.lconst 0, 1) := by decide +kernel
theorem dX6_sing_34 : decode cX6_sing 34 = .ok (.lcmp, 1) := by decide +kernel
theorem dX6_sing_35 : decode cX6_sing 35 = .ok (.ifCond .ge 6, 3) := by decide +kernel
theorem dX6_sing_38 : decode cX6_sing 38 = .ok (.bipush (-2), 2) := by decide +kernel
theorem dX6_sing_40 : decode cX6_sing 40 = .ok (.ireturn, 1) := by decide +kernel
theorem dX6_sing_41 : decode cX6_sing 41 = .ok (.aload_n 0, 1) := by decide +kernel
theorem dX6_sing_42 : decode cX6_sing 42 = .ok (.getfield 35, 3) := by decide +kernel
theorem dX6_sing_45 : decode cX6_sing 45 = .ok (.iload_n 1, 1) := by decide +kernel
theorem dX6_sing_46 : decode cX6_sing 46 = .ok (.aload_n 0, 1) := by decide +kernel
theorem dX6_sing_47 : decode cX6_sing 47 = .ok (.getfield 26, 3) := by decide +kernel
theorem dX6_sing_50 : decode cX6_sing 50 = .ok (.iload_n 2, 1) := by decide +kernel
theorem dX6_sing_51 : decode cX6_sing 51 = .ok (.iload_n 3, 1) := by decide +kernel
theorem dX6_sing_52 : decode cX6_sing 52 = .ok (.iconst (-1), 1) := by decide +kernel
theorem dX6_sing_53 : decode cX6_sing 53 = .ok (.invokevirtual 165, 3) := by decide +kernel
theorem dX6_sing_56 : decode cX6_sing 56 = .ok (.lload 4, 2) := by decide +kernel
theorem dX6_sing_58 : decode cX6_sing 58 = .ok (.invokevirtual 169, 3) := by decide +kernel
theorem dX6_sing_61 : decode cX6_sing 61 = .ok (.istore 6, 2) := by decide +kernel
theorem dX6_sing_63 : decode cX6_sing 63 = .ok (.iload 6, 2) := by decide +kernel
theorem dX6_sing_65 : decode cX6_sing 65 = .ok (.ifCond .eq 13, 3) := by decide +kernel
theorem dX6_sing_68 : decode cX6_sing 68 = .ok (.aload_n 0, 1) := by decide +kernel
theorem dX6_sing_69 : decode cX6_sing 69 = .ok (.getfield 35, 3) := by decide +kernel
theorem dX6_sing_72 : decode cX6_sing 72 = .ok (.getfield 173, 3) := by decide +kernel
theorem dX6_sing_75 : decode cX6_sing 75 = .ok (.goto 5, 3) := by decide +kernel
theorem dX6_sing_78 : decode cX6_sing 78 = .ok (.bipush (-3), 2) := by decide +kernel
theorem dX6_sing_80 : decode cX6_sing 80 = .ok (.ireturn, 1) := by decide +kernel
theorem dX6_sung_0 : decode cX6_sung 0 = .ok (.iload_n 1, 1) := by decide +kernel
theorem dX6_sung_1 : decode cX6_sung 1 = .ok (.iconst 0, 1) := by decide +kernel
theorem dX6_sung_2 : decode cX6_sung 2 = .ok (.aload_n 0, 1) := by decide +kernel
theorem dX6_sung_3 : decode cX6_sung 3 = .ok (.getfield 35, 3) := by decide +kernel
theorem dX6_sung_6 : decode cX6_sung 6 = .ok (.getfield 173, 3) := by decide +kernel
theorem dX6_sung_9 : decode cX6_sung 9 = .ok (.iconst 1, 1) := by decide +kernel
theorem dX6_sung_10 : decode cX6_sung 10 = .ok (.isub, 1) := by decide +kernel
theorem dX6_sung_11 : decode cX6_sung 11 = .ok (.invokestatic 61, 3) := by decide +kernel
theorem dX6_sung_14 : decode cX6_sung 14 = .ok (.ifCond .eq 15, 3) := by decide +kernel
theorem dX6_sung_17 : decode cX6_sung 17 = .ok (.aload_n 0, 1) := by decide +kernel
theorem dX6_sung_18 : decode cX6_sung 18 = .ok (.getfield 35, 3) := by decide +kernel
theorem dX6_sung_21 : decode cX6_sung 21 = .ok (.getfield 176, 3) := by decide +kernel
theorem dX6_sung_24 : decode cX6_sung 24 = .ok (.iload_n 1, 1) := by decide +kernel
theorem dX6_sung_25 : decode cX6_sung 25 = .ok (.iaload, 1) := by decide +kernel
theorem dX6_sung_26 : decode cX6_sung 26 = .ok (.goto 4, 3) := by decide +kernel
theorem dX6_sung_29 : decode cX6_sung 29 = .ok (.iconst (-1), 1) := by decide +kernel
theorem dX6_sung_30 : decode cX6_sung 30 = .ok (.ireturn, 1) := by decide +kernel
theorem dX6_singer_0 : decode cX6_singer 0 = .ok (.iload_n 1, 1) := by decide +kernel
theorem dX6_singer_1 : decode cX6_singer 1 = .ok (.invokestatic 162, 3) := by decide +kernel
theorem dX6_singer_4 : decode cX6_singer 4 = .ok (.ifCond .ne 6, 3) := by decide +kernel
theorem dX6_singer_7 : decode cX6_singer 7 = .ok (.bipush (-2), 2) := by decide +kernel
theorem dX6_singer_9 : decode cX6_singer 9 = .ok (.ireturn, 1) := by decide +kernel
theorem dX6_singer_10 : decode cX6_singer 10 = .ok (.aload_n 0, 1) := by decide +kernel
theorem dX6_singer_11 : decode cX6_singer 11 = .ok (.getfield 26, 3) := by decide +kernel
theorem dX6_singer_14 : decode cX6_singer 14 = .ok (.getfield 179, 3) := by decide +kernel
theorem dX6_singer_17 : decode cX6_singer 17 = .ok (.bipush 8, 2) := by decide +kernel
theorem dX6_singer_19 : decode cX6_singer 19 = .ok (.if_icmp .lt 6, 3) := by decide +kernel
theorem dX6_singer_22 : decode cX6_singer 22 = .ok (.bipush (-4), 2) := by decide +kernel
theorem dX6_singer_24 : decode cX6_singer 24 = .ok (.ireturn, 1) := by decide +kernel
theorem dX6_singer_25 : decode cX6_singer 25 = .ok (.aload_n 0, 1) := by decide +kernel
theorem dX6_singer_26 : decode cX6_singer 26 = .ok (.getfield 26, 3) := by decide +kernel
theorem dX6_singer_29 : decode cX6_singer 29 = .ok (.iload_n 1, 1) := by decide +kernel
theorem dX6_singer_30 : decode cX6_singer 30 = .ok (.invokevirtual 182, 3) := by decide +kernel
theorem dX6_singer_33 : decode cX6_singer 33 = .ok (.ireturn, 1) := by decide +kernel
theorem dX6_village_0 : decode cX6_village 0 = .ok (.aload_n 0, 1) := by decide +kernel
theorem dX6_village_1 : decode cX6_village 1 = .ok (.getfield 26, 3) := by decide +kernel
theorem dX6_village_4 : decode cX6_village 4 = .ok (.iload_n 1, 1) := by decide +kernel
theorem dX6_village_5 : decode cX6_village 5 = .ok (.invokevirtual 159, 3) := by decide +kernel
theorem dX6_village_8 : decode cX6_village 8 = .ok (.ifCond .ne 5, 3) := by decide +kernel
theorem dX6_village_11 : decode cX6_village 11 = .ok (.iconst (-1), 1) := by decide +kernel
theorem dX6_village_12 : decode cX6_village 12 = .ok (.ireturn, 1) := by decide +kernel
theorem dX6_village_13 : decode cX6_village 13 = .ok (.iload_n 2, 1) := by decide +kernel
theorem dX6_village_14 : decode cX6_village 14 = .ok (.iconst 0, 1) := by decide +kernel
theorem dX6_village_15 : decode cX6_village 15 = .ok (.bipush 9, 2) := by decide +kernel
theorem dX6_village_17 : decode cX6_village 17 = .ok (.invokestatic 61, 3) := by decide +kernel
theorem dX6_village_20 : decode cX6_village 20 = .ok (.ifCond .ne 6, 3) := by decide +kernel
theorem dX6_village_23 : decode cX6_village 23 = .ok (.bipush (-2), 2) := by decide +kernel
theorem dX6_village_25 : decode cX6_village 25 = .ok (.ireturn, 1) := by decide +kernel
theorem dX6_village_26 : decode cX6_village 26 = .ok (.aload_n 0, 1) := by decide +kernel
theorem dX6_village_27 : decode cX6_village 27 = .ok (.getfield 26, 3) := by decide +kernel
theorem dX6_village_30 : decode cX6_village 30 = .ok (.getfield 185, 3) := by decide +kernel
theorem dX6_village_33 : decode cX6_village 33 = .ok (.iload_n 1, 1) := by decide +kernel
theorem dX6_village_34 : decode cX6_village 34 = .ok (.iaload, 1) := by decide +kernel
theorem dX6_village_35 : decode cX6_village 35 = .ok (.istore_n 3, 1) := by decide +kernel
theorem dX6_village_36 : decode cX6_village 36 = .ok (.aload_n 0, 1) := by decide +kernel
theorem dX6_village_37 : decode cX6_village 37 = .ok (.getfield 26, 3) := by decide +kernel
theorem dX6_village_40 : decode cX6_village 40 = .ok (.getfield 185, 3) := by decide +kernel
theorem dX6_village_43 : decode cX6_village 43 = .ok (.iload_n 1, 1) := by decide +kernel
theorem dX6_village_44 : decode cX6_village 44 = .ok (.iload_n 2, 1) := by decide +kernel
theorem dX6_village_45 : decode cX6_village 45 = .ok (.iastore, 1) := by decide +kernel
theorem dX6_village_46 : decode cX6_village 46 = .ok (.iload_n 3, 1) := by decide +kernel
theorem dX6_village_47 : decode cX6_village 47 = .ok (.ireturn, 1) := by decide +kernel
theorem dX6_learn_0 : decode cX6_learn 0 = .ok (.aload_n 0, 1) := by decide +kernel
theorem dX6_learn_1 : decode cX6_learn 1 = .ok (.getfield 26, 3) := by decide +kernel
theorem dX6_learn_4 : decode cX6_learn 4 = .ok (.iload_n 1, 1) := by decide +kernel
theorem dX6_learn_5 : decode cX6_learn 5 = .ok (.invokevirtual 159, 3) := by decide +kernel
theorem dX6_learn_8 : decode cX6_learn 8 = .ok (.ifCond .eq 14, 3) := by decide +kernel
theorem dX6_learn_11 : decode cX6_learn 11 = .ok (.aload_n 0, 1) := by decide +kernel
theorem dX6_learn_12 : decode cX6_learn 12 = .ok (.getfield 10, 3) := by decide +kernel
theorem dX6_learn_15 : decode cX6_learn 15 = .ok (.iload_n 2, 1) := by decide +kernel
theorem dX6_learn_16 : decode cX6_learn 16 = .ok (.invokevirtual 96, 3) := by decide +kernel
theorem dX6_learn_19 : decode cX6_learn 19 = .ok (.ifCond .ne 5, 3) := by decide +kernel
theorem dX6_learn_22 : decode cX6_learn 22 = .ok (.iconst (-1), 1) := by decide +kernel
theorem dX6_learn_23 : decode cX6_learn 23 = .ok (.ireturn, 1) := by decide +kernel
theorem dX6_learn_24 : decode cX6_learn 24 = .ok (.iload_n 3, 1) := by decide +kernel
theorem dX6_learn_25 : decode cX6_learn 25 = .ok (.iconst (-1), 1) := by decide +kernel
theorem dX6_learn_26 : decode cX6_learn 26 = .ok (.if_icmp .eq 16, 3) := by decide +kernel
theorem dX6_learn_29 : decode cX6_learn 29 = .ok (.aload_n 0, 1) := by decide +kernel
theorem dX6_learn_30 : decode cX6_learn 30 = .ok (.getfield 26, 3) := by decide +kernel
theorem dX6_learn_33 : decode cX6_learn 33 = .ok (.iload_n 3, 1) := by decide +kernel
theorem dX6_learn_34 : decode cX6_learn 34 = .ok (.invokevirtual 159, 3) := by decide +kernel
theorem dX6_learn_37 : decode cX6_learn 37 = .ok (.ifCond .ne 5, 3) := by decide +kernel
theorem dX6_learn_40 : decode cX6_learn 40 = .ok (.iconst (-1), 1) := by decide +kernel
theorem dX6_learn_41 : decode cX6_learn 41 = .ok (.ireturn, 1) := by decide +kernel
theorem dX6_learn_42 : decode cX6_learn 42 = .ok (.iload 4, 2) := by decide +kernel
theorem dX6_learn_44 : decode cX6_learn 44 = .ok (.invokestatic 162, 3) := by decide +kernel
theorem dX6_learn_47 : decode cX6_learn 47 = .ok (.ifCond .eq 8, 3) := by decide +kernel
theorem dX6_learn_50 : decode cX6_learn 50 = .ok (.iload_n 3, 1) := by decide +kernel
theorem dX6_learn_51 : decode cX6_learn 51 = .ok (.iload_n 1, 1) := by decide +kernel
theorem dX6_learn_52 : decode cX6_learn 52 = .ok (.if_icmp .ne 6, 3) := by decide +kernel
theorem dX6_learn_55 : decode cX6_learn 55 = .ok (.bipush (-2), 2) := by decide +kernel
theorem dX6_learn_57 : decode cX6_learn 57 = .ok (.ireturn, 1) := by decide +kernel
theorem dX6_learn_58 : decode cX6_learn 58 = .ok (.aload_n 0, 1) := by decide +kernel
theorem dX6_learn_59 : decode cX6_learn 59 = .ok (.getfield 26, 3) := by decide +kernel
theorem dX6_learn_62 : decode cX6_learn 62 = .ok (.getfield 188, 3) := by decide +kernel
theorem dX6_learn_65 : decode cX6_learn 65 = .ok (.sipush 200, 3) := by decide +kernel
theorem dX6_learn_68 : decode cX6_learn 68 = .ok (.if_icmp .lt 6, 3) := by decide +kernel
theorem dX6_learn_71 : decode cX6_learn 71 = .ok (.bipush (-4), 2) := by decide +kernel
theorem dX6_learn_73 : decode cX6_learn 73 = .ok (.ireturn, 1) := by decide +kernel
theorem dX6_learn_74 : decode cX6_learn 74 = .ok (.aload_n 0, 1) := by decide +kernel
theorem dX6_learn_75 : decode cX6_learn 75 = .ok (.getfield 26, 3) := by decide +kernel
theorem dX6_learn_78 : decode cX6_learn 78 = .ok (.iload_n 1, 1) := by decide +kernel
theorem dX6_learn_79 : decode cX6_learn 79 = .ok (.iload_n 2, 1) := by decide +kernel
theorem dX6_learn_80 : decode cX6_learn 80 = .ok (.iload 4, 2) := by decide +kernel
theorem dX6_learn_82 : decode cX6_learn 82 = .ok (.iconst 1, 1) := by decide +kernel
theorem dX6_learn_83 : decode cX6_learn 83 = .ok (.invokevirtual 191, 3) := by decide +kernel
theorem dX6_learn_86 : decode cX6_learn 86 = .ok (.ireturn, 1) := by decide +kernel
theorem dX6_forget_0 : decode cX6_forget 0 = .ok (.aload_n 0, 1) := by decide +kernel
theorem dX6_forget_1 : decode cX6_forget 1 = .ok (.getfield 26, 3) := by decide +kernel
theorem dX6_forget_4 : decode cX6_forget 4 = .ok (.iload_n 1, 1) := by decide +kernel
theorem dX6_forget_5 : decode cX6_forget 5 = .ok (.invokevirtual 159, 3) := by decide +kernel
theorem dX6_forget_8 : decode cX6_forget 8 = .ok (.ifCond .eq 14, 3) := by decide +kernel
theorem dX6_forget_11 : decode cX6_forget 11 = .ok (.aload_n 0, 1) := by decide +kernel
theorem dX6_forget_12 : decode cX6_forget 12 = .ok (.getfield 10, 3) := by decide +kernel
theorem dX6_forget_15 : decode cX6_forget 15 = .ok (.iload_n 2, 1) := by decide +kernel
theorem dX6_forget_16 : decode cX6_forget 16 = .ok (.invokevirtual 96, 3) := by decide +kernel
theorem dX6_forget_19 : decode cX6_forget 19 = .ok (.ifCond .ne 5, 3) := by decide +kernel
theorem dX6_forget_22 : decode cX6_forget 22 = .ok (.iconst (-1), 1) := by decide +kernel
theorem dX6_forget_23 : decode cX6_forget 23 = .ok (.ireturn, 1) := by decide +kernel
theorem dX6_forget_24 : decode cX6_forget 24 = .ok (.iload_n 3, 1) := by decide +kernel
theorem dX6_forget_25 : decode cX6_forget 25 = .ok (.invokestatic 162, 3) := by decide +kernel
theorem dX6_forget_28 : decode cX6_forget 28 = .ok (.ifCond .ne 6, 3) := by decide +kernel
theorem dX6_forget_31 : decode cX6_forget 31 = .ok (.bipush (-2), 2) := by decide +kernel
theorem dX6_forget_33 : decode cX6_forget 33 = .ok (.ireturn, 1) := by decide +kernel
theorem dX6_forget_34 : decode cX6_forget 34 = .ok (.aload_n 0, 1) := by decide +kernel
theorem dX6_forget_35 : decode cX6_forget 35 = .ok (.getfield 26, 3) := by decide +kernel
theorem dX6_forget_38 : decode cX6_forget 38 = .ok (.getfield 188, 3) := by decide +kernel
theorem dX6_forget_41 : decode cX6_forget 41 = .ok (.sipush 200, 3) := by decide +kernel
theorem dX6_forget_44 : decode cX6_forget 44 = .ok (.if_icmp .lt 6, 3) := by decide +kernel
theorem dX6_forget_47 : decode cX6_forget 47 = .ok (.bipush (-4), 2) := by decide +kernel
theorem dX6_forget_49 : decode cX6_forget 49 = .ok (.ireturn, 1) := by decide +kernel
theorem dX6_forget_50 : decode cX6_forget 50 = .ok (.aload_n 0, 1) := by decide +kernel
theorem dX6_forget_51 : decode cX6_forget 51 = .ok (.getfield 26, 3) := by decide +kernel
theorem dX6_forget_54 : decode cX6_forget 54 = .ok (.iload_n 1, 1) := by decide +kernel
theorem dX6_forget_55 : decode cX6_forget 55 = .ok (.iload_n 2, 1) := by decide +kernel
theorem dX6_forget_56 : decode cX6_forget 56 = .ok (.iload_n 3, 1) := by decide +kernel
theorem dX6_forget_57 : decode cX6_forget 57 = .ok (.iconst 0, 1) := by decide +kernel
theorem dX6_forget_58 : decode cX6_forget 58 = .ok (.invokevirtual 191, 3) := by decide +kernel
theorem dX6_forget_61 : decode cX6_forget 61 = .ok (.ireturn, 1) := by decide +kernel
theorem dX6_has_0 : decode cX6_has 0 = .ok (.aload_n 0, 1) := by decide +kernel
theorem dX6_has_1 : decode cX6_has 1 = .ok (.getfield 26, 3) := by decide +kernel
theorem dX6_has_4 : decode cX6_has 4 = .ok (.iload_n 1, 1) := by decide +kernel
theorem dX6_has_5 : decode cX6_has 5 = .ok (.invokevirtual 159, 3) := by decide +kernel
theorem dX6_has_8 : decode cX6_has 8 = .ok (.ifCond .eq 26, 3) := by decide +kernel
theorem dX6_has_11 : decode cX6_has 11 = .ok (.aload_n 0, 1) := by decide +kernel
theorem dX6_has_12 : decode cX6_has 12 = .ok (.getfield 10, 3) := by decide +kernel
theorem dX6_has_15 : decode cX6_has 15 = .ok (.iload_n 2, 1) := by decide +kernel
theorem dX6_has_16 : decode cX6_has 16 = .ok (.invokevirtual 96, 3) := by decide +kernel
theorem dX6_has_19 : decode cX6_has 19 = .ok (.ifCond .eq 15, 3) := by decide +kernel
theorem dX6_has_22 : decode cX6_has 22 = .ok (.aload_n 0, 1) := by decide +kernel
theorem dX6_has_23 : decode cX6_has 23 = .ok (.getfield 26, 3) := by decide +kernel
theorem dX6_has_26 : decode cX6_has 26 = .ok (.iload 4, 2) := by decide +kernel
theorem dX6_has_28 : decode cX6_has 28 = .ok (.invokevirtual 195, 3) := by decide +kernel
theorem dX6_has_31 : decode cX6_has 31 = .ok (.ifCond .ne 5, 3) := by decide +kernel
theorem dX6_has_34 : decode cX6_has 34 = .ok (.iconst (-1), 1) := by decide +kernel
theorem dX6_has_35 : decode cX6_has 35 = .ok (.ireturn, 1) := by decide +kernel
theorem dX6_has_36 : decode cX6_has 36 = .ok (.iload_n 3, 1) := by decide +kernel
theorem dX6_has_37 : decode cX6_has 37 = .ok (.invokestatic 162, 3) := by decide +kernel
theorem dX6_has_40 : decode cX6_has 40 = .ok (.ifCond .ne 6, 3) := by decide +kernel
theorem dX6_has_43 : decode cX6_has 43 = .ok (.bipush (-2), 2) := by decide +kernel
theorem dX6_has_45 : decode cX6_has 45 = .ok (.ireturn, 1) := by decide +kernel
theorem dX6_has_46 : decode cX6_has 46 = .ok (.aload_n 0, 1) := by decide +kernel
theorem dX6_has_47 : decode cX6_has 47 = .ok (.getfield 26, 3) := by decide +kernel
theorem dX6_has_50 : decode cX6_has 50 = .ok (.iload_n 1, 1) := by decide +kernel
theorem dX6_has_51 : decode cX6_has 51 = .ok (.iload_n 3, 1) := by decide +kernel
theorem dX6_has_52 : decode cX6_has 52 = .ok (.iload 4, 2) := by decide +kernel
theorem dX6_has_54 : decode cX6_has 54 = .ok (.invokevirtual 165, 3) := by decide +kernel
theorem dX6_has_57 : decode cX6_has 57 = .ok (.iload_n 2, 1) := by decide +kernel
theorem dX6_has_58 : decode cX6_has 58 = .ok (.invokestatic 115, 3) := by decide +kernel
theorem dX6_has_61 : decode cX6_has 61 = .ok (.ireturn, 1) := by decide +kernel
theorem dX6_stock_0 : decode cX6_stock 0 = .ok (.aload_n 0, 1) := by decide +kernel
theorem dX6_stock_1 : decode cX6_stock 1 = .ok (.getfield 26, 3) := by decide +kernel
theorem dX6_stock_4 : decode cX6_stock 4 = .ok (.iload_n 1, 1) := by decide +kernel
theorem dX6_stock_5 : decode cX6_stock 5 = .ok (.invokevirtual 159, 3) := by decide +kernel
theorem dX6_stock_8 : decode cX6_stock 8 = .ok (.ifCond .eq 14, 3) := by decide +kernel
theorem dX6_stock_11 : decode cX6_stock 11 = .ok (.aload_n 0, 1) := by decide +kernel
theorem dX6_stock_12 : decode cX6_stock 12 = .ok (.getfield 26, 3) := by decide +kernel
theorem dX6_stock_15 : decode cX6_stock 15 = .ok (.iload_n 3, 1) := by decide +kernel
theorem dX6_stock_16 : decode cX6_stock 16 = .ok (.invokevirtual 195, 3) := by decide +kernel
theorem dX6_stock_19 : decode cX6_stock 19 = .ok (.ifCond .ne 5, 3) := by decide +kernel
theorem dX6_stock_22 : decode cX6_stock 22 = .ok (.iconst (-1), 1) := by decide +kernel
theorem dX6_stock_23 : decode cX6_stock 23 = .ok (.ireturn, 1) := by decide +kernel
theorem dX6_stock_24 : decode cX6_stock 24 = .ok (.iload_n 2, 1) := by decide +kernel
theorem dX6_stock_25 : decode cX6_stock 25 = .ok (.invokestatic 162, 3) := by decide +kernel
theorem dX6_stock_28 : decode cX6_stock 28 = .ok (.ifCond .ne 6, 3) := by decide +kernel
theorem dX6_stock_31 : decode cX6_stock 31 = .ok (.bipush (-2), 2) := by decide +kernel
theorem dX6_stock_33 : decode cX6_stock 33 = .ok (.ireturn, 1) := by decide +kernel
theorem dX6_stock_34 : decode cX6_stock 34 = .ok (.aload_n 0, 1) := by decide +kernel
theorem dX6_stock_35 : decode cX6_stock 35 = .ok (.getfield 26, 3) := by decide +kernel
theorem dX6_stock_38 : decode cX6_stock 38 = .ok (.iload_n 1, 1) := by decide +kernel
theorem dX6_stock_39 : decode cX6_stock 39 = .ok (.iload_n 2, 1) := by decide +kernel
theorem dX6_stock_40 : decode cX6_stock 40 = .ok (.iload_n 3, 1) := by decide +kernel
theorem dX6_stock_41 : decode cX6_stock 41 = .ok (.invokevirtual 165, 3) := by decide +kernel
theorem dX6_stock_44 : decode cX6_stock 44 = .ok (.invokestatic 198, 3) := by decide +kernel
theorem dX6_stock_47 : decode cX6_stock 47 = .ok (.ireturn, 1) := by decide +kernel
theorem dX6_unlike_0 : decode cX6_unlike 0 = .ok (.aload_n 0, 1) := by decide +kernel
theorem dX6_unlike_1 : decode cX6_unlike 1 = .ok (.getfield 26, 3) := by decide +kernel
theorem dX6_unlike_4 : decode cX6_unlike 4 = .ok (.iload_n 1, 1) := by decide +kernel
theorem dX6_unlike_5 : decode cX6_unlike 5 = .ok (.invokevirtual 159, 3) := by decide +kernel
theorem dX6_unlike_8 : decode cX6_unlike 8 = .ok (.ifCond .eq 26, 3) := by decide +kernel
theorem dX6_unlike_11 : decode cX6_unlike 11 = .ok (.aload_n 0, 1) := by decide +kernel
theorem dX6_unlike_12 : decode cX6_unlike 12 = .ok (.getfield 26, 3) := by decide +kernel
theorem dX6_unlike_15 : decode cX6_unlike 15 = .ok (.iload_n 2, 1) := by decide +kernel
theorem dX6_unlike_16 : decode cX6_unlike 16 = .ok (.invokevirtual 159, 3) := by decide +kernel
theorem dX6_unlike_19 : decode cX6_unlike 19 = .ok (.ifCond .eq 15, 3) := by decide +kernel
theorem dX6_unlike_22 : decode cX6_unlike 22 = .ok (.aload_n 0, 1) := by decide +kernel
theorem dX6_unlike_23 : decode cX6_unlike 23 = .ok (.getfield 26, 3) := by decide +kernel
theorem dX6_unlike_26 : decode cX6_unlike 26 = .ok (.iload 4, 2) := by decide +kernel
theorem dX6_unlike_28 : decode cX6_unlike 28 = .ok (.invokevirtual 195, 3) := by decide +kernel
theorem dX6_unlike_31 : decode cX6_unlike 31 = .ok (.ifCond .ne 5, 3) := by decide +kernel
theorem dX6_unlike_34 : decode cX6_unlike 34 = .ok (.iconst (-1), 1) := by decide +kernel
theorem dX6_unlike_35 : decode cX6_unlike 35 = .ok (.ireturn, 1) := by decide +kernel
theorem dX6_unlike_36 : decode cX6_unlike 36 = .ok (.iload_n 3, 1) := by decide +kernel
theorem dX6_unlike_37 : decode cX6_unlike 37 = .ok (.invokestatic 162, 3) := by decide +kernel
theorem dX6_unlike_40 : decode cX6_unlike 40 = .ok (.ifCond .ne 6, 3) := by decide +kernel
theorem dX6_unlike_43 : decode cX6_unlike 43 = .ok (.bipush (-2), 2) := by decide +kernel
theorem dX6_unlike_45 : decode cX6_unlike 45 = .ok (.ireturn, 1) := by decide +kernel
theorem dX6_unlike_46 : decode cX6_unlike 46 = .ok (.aload_n 0, 1) := by decide +kernel
theorem dX6_unlike_47 : decode cX6_unlike 47 = .ok (.getfield 26, 3) := by decide +kernel
theorem dX6_unlike_50 : decode cX6_unlike 50 = .ok (.iload_n 3, 1) := by decide +kernel
theorem dX6_unlike_51 : decode cX6_unlike 51 = .ok (.iload 4, 2) := by decide +kernel
theorem dX6_unlike_53 : decode cX6_unlike 53 = .ok (.invokevirtual 204, 3) := by decide +kernel
theorem dX6_unlike_56 : decode cX6_unlike 56 = .ok (.aload_n 0, 1) := by decide +kernel
theorem dX6_unlike_57 : decode cX6_unlike 57 = .ok (.getfield 26, 3) := by decide +kernel
theorem dX6_unlike_60 : decode cX6_unlike 60 = .ok (.iload_n 1, 1) := by decide +kernel
theorem dX6_unlike_61 : decode cX6_unlike 61 = .ok (.iload_n 2, 1) := by decide +kernel
theorem dX6_unlike_62 : decode cX6_unlike 62 = .ok (.invokevirtual 208, 3) := by decide +kernel
theorem dX6_unlike_65 : decode cX6_unlike 65 = .ok (.ireturn, 1) := by decide +kernel
theorem dX6_master_0 : decode cX6_master 0 = .ok (.aload_n 0, 1) := by decide +kernel
theorem dX6_master_1 : decode cX6_master 1 = .ok (.getfield 26, 3) := by decide +kernel
theorem dX6_master_4 : decode cX6_master 4 = .ok (.iload_n 1, 1) := by decide +kernel
theorem dX6_master_5 : decode cX6_master 5 = .ok (.invokevirtual 159, 3) := by decide +kernel
theorem dX6_master_8 : decode cX6_master 8 = .ok (.ifCond .eq 14, 3) := by decide +kernel
theorem dX6_master_11 : decode cX6_master 11 = .ok (.aload_n 0, 1) := by decide +kernel
theorem dX6_master_12 : decode cX6_master 12 = .ok (.getfield 26, 3) := by decide +kernel
theorem dX6_master_15 : decode cX6_master 15 = .ok (.iload_n 3, 1) := by decide +kernel
theorem dX6_master_16 : decode cX6_master 16 = .ok (.invokevirtual 195, 3) := by decide +kernel
theorem dX6_master_19 : decode cX6_master 19 = .ok (.ifCond .ne 5, 3) := by decide +kernel
theorem dX6_master_22 : decode cX6_master 22 = .ok (.iconst (-1), 1) := by decide +kernel
theorem dX6_master_23 : decode cX6_master 23 = .ok (.ireturn, 1) := by decide +kernel
theorem dX6_master_24 : decode cX6_master 24 = .ok (.iload_n 2, 1) := by decide +kernel
theorem dX6_master_25 : decode cX6_master 25 = .ok (.invokestatic 162, 3) := by decide +kernel
theorem dX6_master_28 : decode cX6_master 28 = .ok (.ifCond .ne 6, 3) := by decide +kernel
theorem dX6_master_31 : decode cX6_master 31 = .ok (.bipush (-2), 2) := by decide +kernel
theorem dX6_master_33 : decode cX6_master 33 = .ok (.ireturn, 1) := by decide +kernel
theorem dX6_master_34 : decode cX6_master 34 = .ok (.aload_n 0, 1) := by decide +kernel
theorem dX6_master_35 : decode cX6_master 35 = .ok (.getfield 26, 3) := by decide +kernel
theorem dX6_master_38 : decode cX6_master 38 = .ok (.iload_n 2, 1) := by decide +kernel
theorem dX6_master_39 : decode cX6_master 39 = .ok (.iload_n 3, 1) := by decide +kernel
theorem dX6_master_40 : decode cX6_master 40 = .ok (.invokevirtual 204, 3) := by decide +kernel
theorem dX6_master_43 : decode cX6_master 43 = .ok (.aload_n 0, 1) := by decide +kernel
theorem dX6_master_44 : decode cX6_master 44 = .ok (.getfield 26, 3) := by decide +kernel
theorem dX6_master_47 : decode cX6_master 47 = .ok (.iload_n 1, 1) := by decide +kernel
theorem dX6_master_48 : decode cX6_master 48 = .ok (.invokevirtual 211, 3) := by decide +kernel
theorem dX6_master_51 : decode cX6_master 51 = .ok (.ireturn, 1) := by decide +kernel
theorem dX6_lineage_0 : decode cX6_lineage 0 = .ok (.aload_n 0, 1) := by decide +kernel
theorem dX6_lineage_1 : decode cX6_lineage 1 = .ok (.getfield 26, 3) := by decide +kernel
theorem dX6_lineage_4 : decode cX6_lineage 4 = .ok (.iload_n 2, 1) := by decide +kernel
theorem dX6_lineage_5 : decode cX6_lineage 5 = .ok (.invokevirtual 195, 3) := by decide +kernel
theorem dX6_lineage_8 : decode cX6_lineage 8 = .ok (.ifCond .ne 5, 3) := by decide +kernel
theorem dX6_lineage_11 : decode cX6_lineage 11 = .ok (.iconst (-1), 1) := by decide +kernel
theorem dX6_lineage_12 : decode cX6_lineage 12 = .ok (.ireturn, 1) := by decide +kernel
theorem dX6_lineage_13 : decode cX6_lineage 13 = .ok (.iload_n 1, 1) := by decide +kernel
theorem dX6_lineage_14 : decode cX6_lineage 14 = .ok (.invokestatic 162, 3) := by decide +kernel
theorem dX6_lineage_17 : decode cX6_lineage 17 = .ok (.ifCond .ne 6, 3) := by decide +kernel
theorem dX6_lineage_20 : decode cX6_lineage 20 = .ok (.bipush (-2), 2) := by decide +kernel
theorem dX6_lineage_22 : decode cX6_lineage 22 = .ok (.ireturn, 1) := by decide +kernel
theorem dX6_lineage_23 : decode cX6_lineage 23 = .ok (.aload_n 0, 1) := by decide +kernel
theorem dX6_lineage_24 : decode cX6_lineage 24 = .ok (.getfield 26, 3) := by decide +kernel
theorem dX6_lineage_27 : decode cX6_lineage 27 = .ok (.iload_n 1, 1) := by decide +kernel
theorem dX6_lineage_28 : decode cX6_lineage 28 = .ok (.iload_n 2, 1) := by decide +kernel
theorem dX6_lineage_29 : decode cX6_lineage 29 = .ok (.invokevirtual 204, 3) := by decide +kernel
theorem dX6_lineage_32 : decode cX6_lineage 32 = .ok (.iconst 0, 1) := by decide +kernel
theorem dX6_lineage_33 : decode cX6_lineage 33 = .ok (.istore_n 3, 1) := by decide +kernel
theorem dX6_lineage_34 : decode cX6_lineage 34 = .ok (.iconst 0, 1) := by decide +kernel
theorem dX6_lineage_35 : decode cX6_lineage 35 = .ok (.istore 4, 2) := by decide +kernel
theorem dX6_lineage_37 : decode cX6_lineage 37 = .ok (.iload 4, 2) := by decide +kernel
theorem dX6_lineage_39 : decode cX6_lineage 39 = .ok (.aload_n 0, 1) := by decide +kernel
theorem dX6_lineage_40 : decode cX6_lineage 40 = .ok (.getfield 26, 3) := by decide +kernel
theorem dX6_lineage_43 : decode cX6_lineage 43 = .ok (.getfield 179, 3) := by decide +kernel
theorem dX6_lineage_46 : decode cX6_lineage 46 = .ok (.if_icmp .ge 41, 3) := by decide +kernel
theorem dX6_lineage_49 : decode cX6_lineage 49 = .ok (.aload_n 0, 1) := by decide +kernel
theorem dX6_lineage_50 : decode cX6_lineage 50 = .ok (.getfield 26, 3) := by decide +kernel
theorem dX6_lineage_53 : decode cX6_lineage 53 = .ok (.iload 4, 2) := by decide +kernel
theorem dX6_lineage_55 : decode cX6_lineage 55 = .ok (.invokevirtual 211, 3) := by decide +kernel
theorem dX6_lineage_58 : decode cX6_lineage 58 = .ok (.istore 5, 2) := by decide +kernel
theorem dX6_lineage_60 : decode cX6_lineage 60 = .ok (.iload 5, 2) := by decide +kernel
theorem dX6_lineage_62 : decode cX6_lineage 62 = .ok (.bipush (-5), 2) := by decide +kernel
theorem dX6_lineage_64 : decode cX6_lineage 64 = .ok (.if_icmp .eq 17, 3) := by decide +kernel
theorem dX6_lineage_67 : decode cX6_lineage 67 = .ok (.iload_n 3, 1) := by decide +kernel
theorem dX6_lineage_68 : decode cX6_lineage 68 = .ok (.aload_n 0, 1) := by decide +kernel
theorem dX6_lineage_69 : decode cX6_lineage 69 = .ok (.getfield 26, 3) := by decide +kernel
theorem dX6_lineage_72 : decode cX6_lineage 72 = .ok (.iload 4, 2) := by decide +kernel
theorem dX6_lineage_74 : decode cX6_lineage 74 = .ok (.iload 5, 2) := by decide +kernel
theorem dX6_lineage_76 : decode cX6_lineage 76 = .ok (.invokevirtual 208, 3) := by decide +kernel
theorem dX6_lineage_79 : decode cX6_lineage 79 = .ok (.iadd, 1) := by decide +kernel
theorem dX6_lineage_80 : decode cX6_lineage 80 = .ok (.istore_n 3, 1) := by decide +kernel
theorem dX6_lineage_81 : decode cX6_lineage 81 = .ok (.iinc 4 1, 3) := by decide +kernel
theorem dX6_lineage_84 : decode cX6_lineage 84 = .ok (.goto (-47), 3) := by decide +kernel
theorem dX6_lineage_87 : decode cX6_lineage 87 = .ok (.iload_n 3, 1) := by decide +kernel
theorem dX6_lineage_88 : decode cX6_lineage 88 = .ok (.ireturn, 1) := by decide +kernel
theorem dX6_loan_0 : decode cX6_loan 0 = .ok (.aload_n 0, 1) := by decide +kernel
theorem dX6_loan_1 : decode cX6_loan 1 = .ok (.getfield 26, 3) := by decide +kernel
theorem dX6_loan_4 : decode cX6_loan 4 = .ok (.iload_n 1, 1) := by decide +kernel
theorem dX6_loan_5 : decode cX6_loan 5 = .ok (.invokevirtual 159, 3) := by decide +kernel
theorem dX6_loan_8 : decode cX6_loan 8 = .ok (.ifCond .eq 26, 3) := by decide +kernel
theorem dX6_loan_11 : decode cX6_loan 11 = .ok (.aload_n 0, 1) := by decide +kernel
theorem dX6_loan_12 : decode cX6_loan 12 = .ok (.getfield 26, 3) := by decide +kernel
theorem dX6_loan_15 : decode cX6_loan 15 = .ok (.iload_n 2, 1) := by decide +kernel
theorem dX6_loan_16 : decode cX6_loan 16 = .ok (.invokevirtual 159, 3) := by decide +kernel
theorem dX6_loan_19 : decode cX6_loan 19 = .ok (.ifCond .eq 15, 3) := by decide +kernel
theorem dX6_loan_22 : decode cX6_loan 22 = .ok (.aload_n 0, 1) := by decide +kernel
theorem dX6_loan_23 : decode cX6_loan 23 = .ok (.getfield 26, 3) := by decide +kernel
theorem dX6_loan_26 : decode cX6_loan 26 = .ok (.iload 4, 2) := by decide +kernel
theorem dX6_loan_28 : decode cX6_loan 28 = .ok (.invokevirtual 195, 3) := by decide +kernel
theorem dX6_loan_31 : decode cX6_loan 31 = .ok (.ifCond .ne 5, 3) := by decide +kernel
theorem dX6_loan_34 : decode cX6_loan 34 = .ok (.iconst (-1), 1) := by decide +kernel
theorem dX6_loan_35 : decode cX6_loan 35 = .ok (.ireturn, 1) := by decide +kernel
theorem dX6_loan_36 : decode cX6_loan 36 = .ok (.iload_n 3, 1) := by decide +kernel
theorem dX6_loan_37 : decode cX6_loan 37 = .ok (.invokestatic 162, 3) := by decide +kernel
theorem dX6_loan_40 : decode cX6_loan 40 = .ok (.ifCond .eq 8, 3) := by decide +kernel
theorem dX6_loan_43 : decode cX6_loan 43 = .ok (.iload_n 1, 1) := by decide +kernel
theorem dX6_loan_44 : decode cX6_loan 44 = .ok (.iload_n 2, 1) := by decide +kernel
theorem dX6_loan_45 : decode cX6_loan 45 = .ok (.if_icmp .ne 6, 3) := by decide +kernel
theorem dX6_loan_48 : decode cX6_loan 48 = .ok (.bipush (-2), 2) := by decide +kernel
theorem dX6_loan_50 : decode cX6_loan 50 = .ok (.ireturn, 1) := by decide +kernel
theorem dX6_loan_51 : decode cX6_loan 51 = .ok (.aload_n 0, 1) := by decide +kernel
theorem dX6_loan_52 : decode cX6_loan 52 = .ok (.getfield 26, 3) := by decide +kernel
theorem dX6_loan_55 : decode cX6_loan 55 = .ok (.iload_n 3, 1) := by decide +kernel
theorem dX6_loan_56 : decode cX6_loan 56 = .ok (.iload 4, 2) := by decide +kernel
theorem dX6_loan_58 : decode cX6_loan 58 = .ok (.invokevirtual 204, 3) := by decide +kernel
theorem dX6_loan_61 : decode cX6_loan 61 = .ok (.aload_n 0, 1) := by decide +kernel
theorem dX6_loan_62 : decode cX6_loan 62 = .ok (.getfield 26, 3) := by decide +kernel
theorem dX6_loan_65 : decode cX6_loan 65 = .ok (.getfield 214, 3) := by decide +kernel
theorem dX6_loan_68 : decode cX6_loan 68 = .ok (.iload_n 1, 1) := by decide +kernel
theorem dX6_loan_69 : decode cX6_loan 69 = .ok (.laload, 1) := by decide +kernel
theorem dX6_loan_70 : decode cX6_loan 70 = .ok (.aload_n 0, 1) := by decide +kernel
theorem dX6_loan_71 : decode cX6_loan 71 = .ok (.getfield 26, 3) := by decide +kernel
theorem dX6_loan_74 : decode cX6_loan 74 = .ok (.getfield 214, 3) := by decide +kernel
theorem dX6_loan_77 : decode cX6_loan 77 = .ok (.iload_n 2, 1) := by decide +kernel
theorem dX6_loan_78 : decode cX6_loan 78 = .ok (.laload, 1) := by decide +kernel
theorem dX6_loan_79 : decode cX6_loan 79 = .ok (.land, 1) := by decide +kernel
theorem dX6_loan_80 : decode cX6_loan 80 = .ok (.aload_n 0, 1) := by decide +kernel
theorem dX6_loan_81 : decode cX6_loan 81 = .ok (.getfield 10, 3) := by decide +kernel
theorem dX6_loan_84 : decode cX6_loan 84 = .ok (.getfield 111, 3) := by decide +kernel
theorem dX6_loan_87 : decode cX6_loan 87 = .ok (.land, 1) := by decide +kernel
theorem dX6_loan_88 : decode cX6_loan 88 = .ok (.lstore 5, 2) := by decide +kernel
theorem dX6_loan_90 : decode cX6_loan 90 = .ok (.lload 5, 2) := by decide +kernel
theorem dX6_loan_92 : decode cX6_loan 92 = .ok (.aload_n 0, 1) := by decide +kernel
theorem dX6_loan_93 : decode cX6_loan 93 = .ok (.getfield 26, 3) := by decide +kernel
theorem dX6_loan_96 : decode cX6_loan 96 = .ok (.iload_n 1, 1) := by decide +kernel
theorem dX6_loan_97 : decode cX6_loan 97 = .ok (.invokevirtual 218, 3) := by decide +kernel
theorem dX6_loan_100 : decode cX6_loan 100 = .ok (.ldc2_w 222, 3) := by decide +kernel
theorem dX6_loan_103 : decode cX6_loan 103 = .ok (.lxor, 1) := by decide +kernel
theorem dX6_loan_104 : decode cX6_loan 104 = .ok (.land, 1) := by decide +kernel
theorem dX6_loan_105 : decode cX6_loan 105 = .ok (.aload_n 0, 1) := by decide +kernel
theorem dX6_loan_106 : decode cX6_loan 106 = .ok (.getfield 26, 3) := by decide +kernel
theorem dX6_loan_109 : decode cX6_loan 109 = .ok (.iload_n 2, 1) := by decide +kernel
theorem dX6_loan_110 : decode cX6_loan 110 = .ok (.invokevirtual 218, 3) := by decide +kernel
theorem dX6_loan_113 : decode cX6_loan 113 = .ok (.ldc2_w 222, 3) := by decide +kernel
theorem dX6_loan_116 : decode cX6_loan 116 = .ok (.lxor, 1) := by decide +kernel
theorem dX6_loan_117 : decode cX6_loan 117 = .ok (.land, 1) := by decide +kernel
theorem dX6_loan_118 : decode cX6_loan 118 = .ok (.invokestatic 198, 3) := by decide +kernel
theorem dX6_loan_121 : decode cX6_loan 121 = .ok (.ireturn, 1) := by decide +kernel
theorem dX6_core_0 : decode cX6_core 0 = .ok (.aload_n 0, 1) := by decide +kernel
theorem dX6_core_1 : decode cX6_core 1 = .ok (.getfield 26, 3) := by decide +kernel
theorem dX6_core_4 : decode cX6_core 4 = .ok (.iload_n 2, 1) := by decide +kernel
theorem dX6_core_5 : decode cX6_core 5 = .ok (.invokevirtual 195, 3) := by decide +kernel
theorem dX6_core_8 : decode cX6_core 8 = .ok (.ifCond .eq 20, 3) := by decide +kernel
theorem dX6_core_11 : decode cX6_core 11 = .ok (.iload_n 3, 1) := by decide +kernel
theorem dX6_core_12 : decode cX6_core 12 = .ok (.iconst (-1), 1) := by decide +kernel
theorem dX6_core_13 : decode cX6_core 13 = .ok (.aload_n 0, 1) := by decide +kernel
theorem dX6_core_14 : decode cX6_core 14 = .ok (.getfield 10, 3) := by decide +kernel
theorem dX6_core_17 : decode cX6_core 17 = .ok (.getfield 86, 3) := by decide +kernel
theorem dX6_core_20 : decode cX6_core 20 = .ok (.iconst 1, 1) := by decide +kernel
theorem dX6_core_21 : decode cX6_core 21 = .ok (.isub, 1) := by decide +kernel
theorem dX6_core_22 : decode cX6_core 22 = .ok (.invokestatic 61, 3) := by decide +kernel
theorem dX6_core_25 : decode cX6_core 25 = .ok (.ifCond .ne 5, 3) := by decide +kernel
theorem dX6_core_28 : decode cX6_core 28 = .ok (.iconst (-1), 1) := by decide +kernel
theorem dX6_core_29 : decode cX6_core 29 = .ok (.ireturn, 1) := by decide +kernel
theorem dX6_core_30 : decode cX6_core 30 = .ok (.iload_n 1, 1) := by decide +kernel
theorem dX6_core_31 : decode cX6_core 31 = .ok (.invokestatic 162, 3) := by decide +kernel
theorem dX6_core_34 : decode cX6_core 34 = .ok (.ifCond .ne 6, 3) := by decide +kernel
theorem dX6_core_37 : decode cX6_core 37 = .ok (.bipush (-2), 2) := by decide +kernel
theorem dX6_core_39 : decode cX6_core 39 = .ok (.ireturn, 1) := by decide +kernel
theorem dX6_core_40 : decode cX6_core 40 = .ok (.aload_n 0, 1) := by decide +kernel
theorem dX6_core_41 : decode cX6_core 41 = .ok (.getfield 26, 3) := by decide +kernel
theorem dX6_core_44 : decode cX6_core 44 = .ok (.iload_n 1, 1) := by decide +kernel
theorem dX6_core_45 : decode cX6_core 45 = .ok (.iload_n 2, 1) := by decide +kernel
theorem dX6_core_46 : decode cX6_core 46 = .ok (.invokevirtual 204, 3) := by decide +kernel
theorem dX6_core_49 : decode cX6_core 49 = .ok (.aload_n 0, 1) := by decide +kernel
theorem dX6_core_50 : decode cX6_core 50 = .ok (.getfield 26, 3) := by decide +kernel
theorem dX6_core_53 : decode cX6_core 53 = .ok (.invokevirtual 224, 3) := by decide +kernel
theorem dX6_core_56 : decode cX6_core 56 = .ok (.lstore 4, 2) := by decide +kernel
theorem dX6_core_58 : decode cX6_core 58 = .ok (.iload_n 3, 1) := by decide +kernel
theorem dX6_core_59 : decode cX6_core 59 = .ok (.iconst (-1), 1) := by decide +kernel
theorem dX6_core_60 : decode cX6_core 60 = .ok (.if_icmp .ne 11, 3) := by decide +kernel
theorem dX6_core_63 : decode cX6_core 63 = .ok (.lload 4, 2) := by decide +kernel
theorem dX6_core_65 : decode cX6_core 65 = .ok (.invokestatic 198, 3) := by decide +kernel
theorem dX6_core_68 : decode cX6_core 68 = .ok (.goto 9, 3) := by decide +kernel
theorem dX6_core_71 : decode cX6_core 71 = .ok (.lload 4, 2) := by decide +kernel
theorem dX6_core_73 : decode cX6_core 73 = .ok (.iload_n 3, 1) := by decide +kernel
theorem dX6_core_74 : decode cX6_core 74 = .ok (.invokestatic 228, 3) := by decide +kernel
theorem dX6_core_77 : decode cX6_core 77 = .ok (.ireturn, 1) := by decide +kernel
theorem dX6_whose_0 : decode cX6_whose 0 = .ok (.aload_n 0, 1) := by decide +kernel
theorem dX6_whose_1 : decode cX6_whose 1 = .ok (.getfield 10, 3) := by decide +kernel
theorem dX6_whose_4 : decode cX6_whose 4 = .ok (.iload_n 1, 1) := by decide +kernel
theorem dX6_whose_5 : decode cX6_whose 5 = .ok (.invokevirtual 96, 3) := by decide +kernel
theorem dX6_whose_8 : decode cX6_whose 8 = .ok (.ifCond .eq 14, 3) := by decide +kernel
theorem dX6_whose_11 : decode cX6_whose 11 = .ok (.aload_n 0, 1) := by decide +kernel
theorem dX6_whose_12 : decode cX6_whose 12 = .ok (.getfield 26, 3) := by decide +kernel
theorem dX6_whose_15 : decode cX6_whose 15 = .ok (.iload_n 3, 1) := by decide +kernel
theorem dX6_whose_16 : decode cX6_whose 16 = .ok (.invokevirtual 195, 3) := by decide +kernel
theorem dX6_whose_19 : decode cX6_whose 19 = .ok (.ifCond .ne 5, 3) := by decide +kernel
theorem dX6_whose_22 : decode cX6_whose 22 = .ok (.iconst (-1), 1) := by decide +kernel
theorem dX6_whose_23 : decode cX6_whose 23 = .ok (.ireturn, 1) := by decide +kernel
theorem dX6_whose_24 : decode cX6_whose 24 = .ok (.iload_n 2, 1) := by decide +kernel
theorem dX6_whose_25 : decode cX6_whose 25 = .ok (.invokestatic 162, 3) := by decide +kernel
theorem dX6_whose_28 : decode cX6_whose 28 = .ok (.ifCond .ne 6, 3) := by decide +kernel
theorem dX6_whose_31 : decode cX6_whose 31 = .ok (.bipush (-2), 2) := by decide +kernel
theorem dX6_whose_33 : decode cX6_whose 33 = .ok (.ireturn, 1) := by decide +kernel
theorem dX6_whose_34 : decode cX6_whose 34 = .ok (.aload_n 0, 1) := by decide +kernel
theorem dX6_whose_35 : decode cX6_whose 35 = .ok (.getfield 26, 3) := by decide +kernel
theorem dX6_whose_38 : decode cX6_whose 38 = .ok (.iload_n 2, 1) := by decide +kernel
theorem dX6_whose_39 : decode cX6_whose 39 = .ok (.iload_n 3, 1) := by decide +kernel
theorem dX6_whose_40 : decode cX6_whose 40 = .ok (.invokevirtual 204, 3) := by decide +kernel
theorem dX6_whose_43 : decode cX6_whose 43 = .ok (.aload_n 0, 1) := by decide +kernel
theorem dX6_whose_44 : decode cX6_whose 44 = .ok (.getfield 26, 3) := by decide +kernel
theorem dX6_whose_47 : decode cX6_whose 47 = .ok (.iload_n 1, 1) := by decide +kernel
theorem dX6_whose_48 : decode cX6_whose 48 = .ok (.invokevirtual 231, 3) := by decide +kernel
theorem dX6_whose_51 : decode cX6_whose 51 = .ok (.ireturn, 1) := by decide +kernel
theorem dX6_put_0 : decode cX6_put 0 = .ok (.iload_n 2, 1) := by decide +kernel
theorem dX6_put_1 : decode cX6_put 1 = .ok (.bipush 40, 2) := by decide +kernel
theorem dX6_put_3 : decode cX6_put 3 = .ok (.if_icmp .eq 16, 3) := by decide +kernel
theorem dX6_put_6 : decode cX6_put 6 = .ok (.aload_n 0, 1) := by decide +kernel
theorem dX6_put_7 : decode cX6_put 7 = .ok (.getfield 10, 3) := by decide +kernel
theorem dX6_put_10 : decode cX6_put 10 = .ok (.iload_n 2, 1) := by decide +kernel
theorem dX6_put_11 : decode cX6_put 11 = .ok (.invokevirtual 96, 3) := by decide +kernel
theorem dX6_put_14 : decode cX6_put 14 = .ok (.ifCond .ne 5, 3) := by decide +kernel
theorem dX6_put_17 : decode cX6_put 17 = .ok (.iconst (-1), 1) := by decide +kernel
theorem dX6_put_18 : decode cX6_put 18 = .ok (.ireturn, 1) := by decide +kernel
theorem dX6_put_19 : decode cX6_put 19 = .ok (.iload_n 1, 1) := by decide +kernel
theorem dX6_put_20 : decode cX6_put 20 = .ok (.ifCond .eq 14, 3) := by decide +kernel
theorem dX6_put_23 : decode cX6_put 23 = .ok (.iload_n 1, 1) := by decide +kernel
theorem dX6_put_24 : decode cX6_put 24 = .ok (.aload_n 0, 1) := by decide +kernel
theorem dX6_put_25 : decode cX6_put 25 = .ok (.getfield 57, 3) := by decide +kernel
theorem dX6_put_28 : decode cX6_put 28 = .ok (.if_icmp .eq 6, 3) := by decide +kernel
theorem dX6_put_31 : decode cX6_put 31 = .ok (.bipush (-2), 2) := by decide +kernel
theorem dX6_put_33 : decode cX6_put 33 = .ok (.ireturn, 1) := by decide +kernel
theorem dX6_put_34 : decode cX6_put 34 = .ok (.iload_n 1, 1) := by decide +kernel
theorem dX6_put_35 : decode cX6_put 35 = .ok (.bipush 24, 2) := by decide +kernel
theorem dX6_put_37 : decode cX6_put 37 = .ok (.if_icmp .lt 6, 3) := by decide +kernel
theorem dX6_put_40 : decode cX6_put 40 = .ok (.bipush (-4), 2) := by decide +kernel
theorem dX6_put_42 : decode cX6_put 42 = .ok (.ireturn, 1) := by decide +kernel
theorem dX6_put_43 : decode cX6_put 43 = .ok (.aload_n 0, 1) := by decide +kernel
theorem dX6_put_44 : decode cX6_put 44 = .ok (.getfield 53, 3) := by decide +kernel
theorem dX6_put_47 : decode cX6_put 47 = .ok (.iload_n 1, 1) := by decide +kernel
theorem dX6_put_48 : decode cX6_put 48 = .ok (.iload_n 2, 1) := by decide +kernel
theorem dX6_put_49 : decode cX6_put 49 = .ok (.iastore, 1) := by decide +kernel
theorem dX6_put_50 : decode cX6_put 50 = .ok (.aload_n 0, 1) := by decide +kernel
theorem dX6_put_51 : decode cX6_put 51 = .ok (.iload_n 1, 1) := by decide +kernel
theorem dX6_put_52 : decode cX6_put 52 = .ok (.iconst 1, 1) := by decide +kernel
theorem dX6_put_53 : decode cX6_put 53 = .ok (.iadd, 1) := by decide +kernel
theorem dX6_put_54 : decode cX6_put 54 = .ok (.putfield 57, 3) := by decide +kernel
theorem dX6_put_57 : decode cX6_put 57 = .ok (.aload_n 0, 1) := by decide +kernel
theorem dX6_put_58 : decode cX6_put 58 = .ok (.getfield 57, 3) := by decide +kernel
theorem dX6_put_61 : decode cX6_put 61 = .ok (.ireturn, 1) := by decide +kernel
theorem dX6_runs_0 : decode cX6_runs 0 = .ok (.aload_n 0, 1) := by decide +kernel
theorem dX6_runs_1 : decode cX6_runs 1 = .ok (.getfield 19, 3) := by decide +kernel
theorem dX6_runs_4 : decode cX6_runs 4 = .ok (.iload_n 1, 1) := by decide +kernel
theorem dX6_runs_5 : decode cX6_runs 5 = .ok (.invokevirtual 156, 3) := by decide +kernel
theorem dX6_runs_8 : decode cX6_runs 8 = .ok (.ifCond .eq 26, 3) := by decide +kernel
theorem dX6_runs_11 : decode cX6_runs 11 = .ok (.aload_n 0, 1) := by decide +kernel
theorem dX6_runs_12 : decode cX6_runs 12 = .ok (.getfield 26, 3) := by decide +kernel
theorem dX6_runs_15 : decode cX6_runs 15 = .ok (.iload_n 2, 1) := by decide +kernel
theorem dX6_runs_16 : decode cX6_runs 16 = .ok (.invokevirtual 159, 3) := by decide +kernel
theorem dX6_runs_19 : decode cX6_runs 19 = .ok (.ifCond .eq 15, 3) := by decide +kernel
theorem dX6_runs_22 : decode cX6_runs 22 = .ok (.aload_n 0, 1) := by decide +kernel
theorem dX6_runs_23 : decode cX6_runs 23 = .ok (.getfield 26, 3) := by decide +kernel
theorem dX6_runs_26 : decode cX6_runs 26 = .ok (.iload 4, 2) := by decide +kernel
theorem dX6_runs_28 : decode cX6_runs 28 = .ok (.invokevirtual 195, 3) := by decide +kernel
theorem dX6_runs_31 : decode cX6_runs 31 = .ok (.ifCond .ne 5, 3) := by decide +kernel
theorem dX6_runs_34 : decode cX6_runs 34 = .ok (.iconst (-1), 1) := by decide +kernel
theorem dX6_runs_35 : decode cX6_runs 35 = .ok (.ireturn, 1) := by decide +kernel
theorem dX6_runs_36 : decode cX6_runs 36 = .ok (.iload_n 3, 1) := by decide +kernel
theorem dX6_runs_37 : decode cX6_runs 37 = .ok (.invokestatic 162, 3) := by decide +kernel
theorem dX6_runs_40 : decode cX6_runs 40 = .ok (.ifCond .ne 6, 3) := by decide +kernel
theorem dX6_runs_43 : decode cX6_runs 43 = .ok (.bipush (-2), 2) := by decide +kernel
theorem dX6_runs_45 : decode cX6_runs 45 = .ok (.ireturn, 1) := by decide +kernel
theorem dX6_runs_46 : decode cX6_runs 46 = .ok (.aload_n 0, 1) := by decide +kernel
theorem dX6_runs_47 : decode cX6_runs 47 = .ok (.getfield 57, 3) := by decide +kernel
theorem dX6_runs_50 : decode cX6_runs 50 = .ok (.ifCond .ne 6, 3) := by decide +kernel
theorem dX6_runs_53 : decode cX6_runs 53 = .ok (.bipush (-3), 2) := by decide +kernel
theorem dX6_runs_55 : decode cX6_runs 55 = .ok (.ireturn, 1) := by decide +kernel
theorem dX6_runs_56 : decode cX6_runs 56 = .ok (.aload_n 0, 1) := by decide +kernel
theorem dX6_runs_57 : decode cX6_runs 57 = .ok (.getfield 42, 3) := by decide +kernel
theorem dX6_runs_60 : decode cX6_runs 60 = .ok (.aload_n 0, 1) := by decide +kernel
theorem dX6_runs_61 : decode cX6_runs 61 = .ok (.getfield 53, 3) := by decide +kernel
theorem dX6_runs_64 : decode cX6_runs 64 = .ok (.iconst 0, 1) := by decide +kernel
theorem dX6_runs_65 : decode cX6_runs 65 = .ok (.aload_n 0, 1) := by decide +kernel
theorem dX6_runs_66 : decode cX6_runs 66 = .ok (.getfield 57, 3) := by decide +kernel
theorem dX6_runs_69 : decode cX6_runs 69 = .ok (.aload_n 0, 1) := by decide +kernel
theorem dX6_runs_70 : decode cX6_runs 70 = .ok (.getfield 26, 3) := by decide +kernel
theorem dX6_runs_73 : decode cX6_runs 73 = .ok (.iload_n 2, 1) := by decide +kernel
theorem dX6_runs_74 : decode cX6_runs 74 = .ok (.iload_n 3, 1) := by decide +kernel
theorem dX6_runs_75 : decode cX6_runs 75 = .ok (.iload 4, 2) := by decide +kernel
theorem dX6_runs_77 : decode cX6_runs 77 = .ok (.invokevirtual 165, 3) := by decide +kernel
theorem dX6_runs_80 : decode cX6_runs 80 = .ok (.invokevirtual 234, 3) := by decide +kernel
theorem dX6_runs_83 : decode cX6_runs 83 = .ok (.aload_n 0, 1) := by decide +kernel
theorem dX6_runs_84 : decode cX6_runs 84 = .ok (.getfield 42, 3) := by decide +kernel
theorem dX6_runs_87 : decode cX6_runs 87 = .ok (.iload_n 1, 1) := by decide +kernel
theorem dX6_runs_88 : decode cX6_runs 88 = .ok (.invokevirtual 238, 3) := by decide +kernel
theorem dX6_runs_91 : decode cX6_runs 91 = .ok (.ireturn, 1) := by decide +kernel
theorem dX6_forged_0 : decode cX6_forged 0 = .ok (.aload_n 0, 1) := by decide +kernel
theorem dX6_forged_1 : decode cX6_forged 1 = .ok (.getfield 26, 3) := by decide +kernel
theorem dX6_forged_4 : decode cX6_forged 4 = .ok (.iload_n 1, 1) := by decide +kernel
theorem dX6_forged_5 : decode cX6_forged 5 = .ok (.invokevirtual 159, 3) := by decide +kernel
theorem dX6_forged_8 : decode cX6_forged 8 = .ok (.ifCond .eq 14, 3) := by decide +kernel
theorem dX6_forged_11 : decode cX6_forged 11 = .ok (.aload_n 0, 1) := by decide +kernel
theorem dX6_forged_12 : decode cX6_forged 12 = .ok (.getfield 26, 3) := by decide +kernel
theorem dX6_forged_15 : decode cX6_forged 15 = .ok (.iload_n 3, 1) := by decide +kernel
theorem dX6_forged_16 : decode cX6_forged 16 = .ok (.invokevirtual 195, 3) := by decide +kernel
theorem dX6_forged_19 : decode cX6_forged 19 = .ok (.ifCond .ne 5, 3) := by decide +kernel
theorem dX6_forged_22 : decode cX6_forged 22 = .ok (.iconst (-1), 1) := by decide +kernel
theorem dX6_forged_23 : decode cX6_forged 23 = .ok (.ireturn, 1) := by decide +kernel
theorem dX6_forged_24 : decode cX6_forged 24 = .ok (.iload_n 2, 1) := by decide +kernel
theorem dX6_forged_25 : decode cX6_forged 25 = .ok (.invokestatic 162, 3) := by decide +kernel
theorem dX6_forged_28 : decode cX6_forged 28 = .ok (.ifCond .ne 6, 3) := by decide +kernel
theorem dX6_forged_31 : decode cX6_forged 31 = .ok (.bipush (-2), 2) := by decide +kernel
theorem dX6_forged_33 : decode cX6_forged 33 = .ok (.ireturn, 1) := by decide +kernel
theorem dX6_forged_34 : decode cX6_forged 34 = .ok (.aload_n 0, 1) := by decide +kernel
theorem dX6_forged_35 : decode cX6_forged 35 = .ok (.getfield 57, 3) := by decide +kernel
theorem dX6_forged_38 : decode cX6_forged 38 = .ok (.ifCond .ne 6, 3) := by decide +kernel
theorem dX6_forged_41 : decode cX6_forged 41 = .ok (.bipush (-3), 2) := by decide +kernel
theorem dX6_forged_43 : decode cX6_forged 43 = .ok (.ireturn, 1) := by decide +kernel
theorem dX6_forged_44 : decode cX6_forged 44 = .ok (.aload_n 0, 1) := by decide +kernel
theorem dX6_forged_45 : decode cX6_forged 45 = .ok (.getfield 26, 3) := by decide +kernel
theorem dX6_forged_48 : decode cX6_forged 48 = .ok (.iload_n 2, 1) := by decide +kernel
theorem dX6_forged_49 : decode cX6_forged 49 = .ok (.iload_n 3, 1) := by decide +kernel
theorem dX6_forged_50 : decode cX6_forged 50 = .ok (.invokevirtual 204, 3) := by decide +kernel
theorem dX6_forged_53 : decode cX6_forged 53 = .ok (.aload_n 0, 1) := by decide +kernel
theorem dX6_forged_54 : decode cX6_forged 54 = .ok (.getfield 26, 3) := by decide +kernel
theorem dX6_forged_57 : decode cX6_forged 57 = .ok (.iload_n 1, 1) := by decide +kernel
theorem dX6_forged_58 : decode cX6_forged 58 = .ok (.invokevirtual 241, 3) := by decide +kernel
theorem dX6_forged_61 : decode cX6_forged 61 = .ok (.lstore 4, 2) := by decide +kernel
theorem dX6_forged_63 : decode cX6_forged 63 = .ok (.iconst 0, 1) := by decide +kernel
theorem dX6_forged_64 : decode cX6_forged 64 = .ok (.istore 6, 2) := by decide +kernel
theorem dX6_forged_66 : decode cX6_forged 66 = .ok (.iload 6, 2) := by decide +kernel
theorem dX6_forged_68 : decode cX6_forged 68 = .ok (.aload_n 0, 1) := by decide +kernel
theorem dX6_forged_69 : decode cX6_forged 69 = .ok (.getfield 57, 3) := by decide +kernel
theorem dX6_forged_72 : decode cX6_forged 72 = .ok (.if_icmp .ge 39, 3) := by decide +kernel
theorem dX6_forged_75 : decode cX6_forged 75 = .ok (.aload_n 0, 1) := by decide +kernel
theorem dX6_forged_76 : decode cX6_forged 76 = .ok (.getfield 53, 3) := by decide +kernel
theorem dX6_forged_79 : decode cX6_forged 79 = .ok (.iload 6, 2) := by decide +kernel
theorem dX6_forged_81 : decode cX6_forged 81 = .ok (.iaload, 1) := by decide +kernel
theorem dX6_forged_82 : decode cX6_forged 82 = .ok (.bipush 40, 2) := by decide +kernel
theorem dX6_forged_84 : decode cX6_forged 84 = .ok (.if_icmp .eq 21, 3) := by decide +kernel
theorem dX6_forged_87 : decode cX6_forged 87 = .ok (.lload 4, 2) := by decide +kernel
theorem dX6_forged_89 : decode cX6_forged 89 = .ok (.aload_n 0, 1) := by decide +kernel
theorem dX6_forged_90 : decode cX6_forged 90 = .ok (.getfield 53, 3) := by decide +kernel
theorem dX6_forged_93 : decode cX6_forged 93 = .ok (.iload 6, 2) := by decide +kernel
theorem dX6_forged_95 : decode cX6_forged 95 = .ok (.iaload, 1) := by decide +kernel
theorem dX6_forged_96 : decode cX6_forged 96 = .ok (.invokestatic 115, 3) := by decide +kernel
theorem dX6_forged_99 : decode cX6_forged 99 = .ok (.ifCond .ne 6, 3) := by decide +kernel
theorem dX6_forged_102 : decode cX6_forged 102 = .ok (.iload 6, 2) := by decide +kernel
theorem dX6_forged_104 : decode cX6_forged 104 = .ok (.ireturn, 1) := by decide +kernel
theorem dX6_forged_105 : decode cX6_forged 105 = .ok (.iinc 6 1, 3) := by decide +kernel
theorem dX6_forged_108 : decode cX6_forged 108 = .ok (.goto (-42), 3) := by decide +kernel
theorem dX6_forged_111 : decode cX6_forged 111 = .ok (.bipush (-5), 2) := by decide +kernel
theorem dX6_forged_113 : decode cX6_forged 113 = .ok (.ireturn, 1) := by decide +kernel
theorem dX6_record_0 : decode cX6_record 0 = .ok (.aload_n 0, 1) := by decide +kernel
theorem dX6_record_1 : decode cX6_record 1 = .ok (.getfield 26, 3) := by decide +kernel
theorem dX6_record_4 : decode cX6_record 4 = .ok (.iload_n 1, 1) := by decide +kernel
theorem dX6_record_5 : decode cX6_record 5 = .ok (.invokevirtual 159, 3) := by decide +kernel
theorem dX6_record_8 : decode cX6_record 8 = .ok (.ifCond .eq 14, 3) := by decide +kernel
theorem dX6_record_11 : decode cX6_record 11 = .ok (.aload_n 0, 1) := by decide +kernel
theorem dX6_record_12 : decode cX6_record 12 = .ok (.getfield 19, 3) := by decide +kernel
theorem dX6_record_15 : decode cX6_record 15 = .ok (.iload_n 2, 1) := by decide +kernel
theorem dX6_record_16 : decode cX6_record 16 = .ok (.invokevirtual 156, 3) := by decide +kernel
theorem dX6_record_19 : decode cX6_record 19 = .ok (.ifCond .ne 5, 3) := by decide +kernel
theorem dX6_record_22 : decode cX6_record 22 = .ok (.iconst (-1), 1) := by decide +kernel
theorem dX6_record_23 : decode cX6_record 23 = .ok (.ireturn, 1) := by decide +kernel
theorem dX6_record_24 : decode cX6_record 24 = .ok (.iload_n 3, 1) := by decide +kernel
theorem dX6_record_25 : decode cX6_record 25 = .ok (.invokestatic 162, 3) := by decide +kernel
theorem dX6_record_28 : decode cX6_record 28 = .ok (.ifCond .ne 6, 3) := by decide +kernel
theorem dX6_record_31 : decode cX6_record 31 = .ok (.bipush (-2), 2) := by decide +kernel
theorem dX6_record_33 : decode cX6_record 33 = .ok (.ireturn, 1) := by decide +kernel
theorem dX6_record_34 : decode cX6_record 34 = .ok (.aload_n 0, 1) := by decide +kernel
theorem dX6_record_35 : decode cX6_record 35 = .ok (.getfield 57, 3) := by decide +kernel
theorem dX6_record_38 : decode cX6_record 38 = .ok (.ifCond .ne 6, 3) := by decide +kernel
theorem dX6_record_41 : decode cX6_record 41 = .ok (.bipush (-3), 2) := by decide +kernel
theorem dX6_record_43 : decode cX6_record 43 = .ok (.ireturn, 1) := by decide +kernel
theorem dX6_record_44 : decode cX6_record 44 = .ok (.aload_n 0, 1) := by decide +kernel
theorem dX6_record_45 : decode cX6_record 45 = .ok (.getfield 49, 3) := by decide +kernel
theorem dX6_record_48 : decode cX6_record 48 = .ok (.getfield 244, 3) := by decide +kernel
theorem dX6_record_51 : decode cX6_record 51 = .ok (.bipush 12, 2) := by decide +kernel
theorem dX6_record_53 : decode cX6_record 53 = .ok (.if_icmp .lt 6, 3) := by decide +kernel
theorem dX6_record_56 : decode cX6_record 56 = .ok (.bipush (-4), 2) := by decide +kernel
theorem dX6_record_58 : decode cX6_record 58 = .ok (.ireturn, 1) := by decide +kernel
theorem dX6_record_59 : decode cX6_record 59 = .ok (.aload_n 0, 1) := by decide +kernel
theorem dX6_record_60 : decode cX6_record 60 = .ok (.getfield 49, 3) := by decide +kernel
theorem dX6_record_63 : decode cX6_record 63 = .ok (.iload_n 1, 1) := by decide +kernel
theorem dX6_record_64 : decode cX6_record 64 = .ok (.iload_n 2, 1) := by decide +kernel
theorem dX6_record_65 : decode cX6_record 65 = .ok (.iload_n 3, 1) := by decide +kernel
theorem dX6_record_66 : decode cX6_record 66 = .ok (.aload_n 0, 1) := by decide +kernel
theorem dX6_record_67 : decode cX6_record 67 = .ok (.getfield 53, 3) := by decide +kernel
theorem dX6_record_70 : decode cX6_record 70 = .ok (.aload_n 0, 1) := by decide +kernel
theorem dX6_record_71 : decode cX6_record 71 = .ok (.getfield 57, 3) := by decide +kernel
theorem dX6_record_74 : decode cX6_record 74 = .ok (.invokevirtual 247, 3) := by decide +kernel
theorem dX6_record_77 : decode cX6_record 77 = .ok (.ireturn, 1) := by decide +kernel
theorem dX6_heard_0 : decode cX6_heard 0 = .ok (.aload_n 0, 1) := by decide +kernel
theorem dX6_heard_1 : decode cX6_heard 1 = .ok (.getfield 49, 3) := by decide +kernel
theorem dX6_heard_4 : decode cX6_heard 4 = .ok (.iload_n 1, 1) := by decide +kernel
theorem dX6_heard_5 : decode cX6_heard 5 = .ok (.invokevirtual 251, 3) := by decide +kernel
theorem dX6_heard_8 : decode cX6_heard 8 = .ok (.ifCond .eq 14, 3) := by decide +kernel
theorem dX6_heard_11 : decode cX6_heard 11 = .ok (.aload_n 0, 1) := by decide +kernel
theorem dX6_heard_12 : decode cX6_heard 12 = .ok (.getfield 26, 3) := by decide +kernel
theorem dX6_heard_15 : decode cX6_heard 15 = .ok (.iload_n 2, 1) := by decide +kernel
theorem dX6_heard_16 : decode cX6_heard 16 = .ok (.invokevirtual 195, 3) := by decide +kernel
theorem dX6_heard_19 : decode cX6_heard 19 = .ok (.ifCond .ne 5, 3) := by decide +kernel
theorem dX6_heard_22 : decode cX6_heard 22 = .ok (.iconst (-1), 1) := by decide +kernel
theorem dX6_heard_23 : decode cX6_heard 23 = .ok (.ireturn, 1) := by decide +kernel
theorem dX6_heard_24 : decode cX6_heard 24 = .ok (.iload_n 3, 1) := by decide +kernel
theorem dX6_heard_25 : decode cX6_heard 25 = .ok (.tableswitch 96 0 3 #[31, 62, 77, 86], 31) := by decide +kernel
theorem dX6_heard_56 : decode cX6_heard 56 = .ok (.aload_n 0, 1) := by decide +kernel
theorem dX6_heard_57 : decode cX6_heard 57 = .ok (.iload_n 1, 1) := by decide +kernel
theorem dX6_heard_58 : decode cX6_heard 58 = .ok (.iload_n 2, 1) := by decide +kernel
theorem dX6_heard_59 : decode cX6_heard 59 = .ok (.invokevirtual 254, 3) := by decide +kernel
theorem dX6_heard_62 : decode cX6_heard 62 = .ok (.aload_n 0, 1) := by decide +kernel
theorem dX6_heard_63 : decode cX6_heard 63 = .ok (.getfield 42, 3) := by decide +kernel
theorem dX6_heard_66 : decode cX6_heard 66 = .ok (.aload_n 0, 1) := by decide +kernel
theorem dX6_heard_67 : decode cX6_heard 67 = .ok (.getfield 49, 3) := by decide +kernel
theorem dX6_heard_70 : decode cX6_heard 70 = .ok (.getfield 257, 3) := by decide +kernel
theorem dX6_heard_73 : decode cX6_heard 73 = .ok (.iload_n 1, 1) := by decide +kernel
theorem dX6_heard_74 : decode cX6_heard 74 = .ok (.iaload, 1) := by decide +kernel
theorem dX6_heard_75 : decode cX6_heard 75 = .ok (.invokevirtual 238, 3) := by decide +kernel
theorem dX6_heard_78 : decode cX6_heard 78 = .ok (.ifCond .le 7, 3) := by decide +kernel
theorem dX6_heard_81 : decode cX6_heard 81 = .ok (.iconst 1, 1) := by decide +kernel
theorem dX6_heard_82 : decode cX6_heard 82 = .ok (.goto 4, 3) := by decide +kernel
theorem dX6_heard_85 : decode cX6_heard 85 = .ok (.iconst 0, 1) := by decide +kernel
theorem dX6_heard_86 : decode cX6_heard 86 = .ok (.ireturn, 1) := by decide +kernel
theorem dX6_heard_87 : decode cX6_heard 87 = .ok (.aload_n 0, 1) := by decide +kernel
theorem dX6_heard_88 : decode cX6_heard 88 = .ok (.getfield 49, 3) := by decide +kernel
theorem dX6_heard_91 : decode cX6_heard 91 = .ok (.iload_n 1, 1) := by decide +kernel
theorem dX6_heard_92 : decode cX6_heard 92 = .ok (.aload_n 0, 1) := by decide +kernel
theorem dX6_heard_93 : decode cX6_heard 93 = .ok (.iload_n 1, 1) := by decide +kernel
theorem dX6_heard_94 : decode cX6_heard 94 = .ok (.iload_n 2, 1) := by decide +kernel
theorem dX6_heard_95 : decode cX6_heard 95 = .ok (.invokevirtual 260, 3) := by decide +kernel
theorem dX6_heard_98 : decode cX6_heard 98 = .ok (.invokevirtual 264, 3) := by decide +kernel
theorem dX6_heard_101 : decode cX6_heard 101 = .ok (.ireturn, 1) := by decide +kernel
theorem dX6_heard_102 : decode cX6_heard 102 = .ok (.aload_n 0, 1) := by decide +kernel
theorem dX6_heard_103 : decode cX6_heard 103 = .ok (.getfield 49, 3) := by decide +kernel
theorem dX6_heard_106 : decode cX6_heard 106 = .ok (.iload_n 1, 1) := by decide +kernel
theorem dX6_heard_107 : decode cX6_heard 107 = .ok (.invokevirtual 268, 3) := by decide +kernel
theorem dX6_heard_110 : decode cX6_heard 110 = .ok (.ireturn, 1) := by decide +kernel
theorem dX6_heard_111 : decode cX6_heard 111 = .ok (.aload_n 0, 1) := by decide +kernel
theorem dX6_heard_112 : decode cX6_heard 112 = .ok (.getfield 49, 3) := by decide +kernel
theorem dX6_heard_115 : decode cX6_heard 115 = .ok (.getfield 271, 3) := by decide +kernel
theorem dX6_heard_118 : decode cX6_heard 118 = .ok (.iload_n 1, 1) := by decide +kernel
theorem dX6_heard_119 : decode cX6_heard 119 = .ok (.iaload, 1) := by decide +kernel
theorem dX6_heard_120 : decode cX6_heard 120 = .ok (.ireturn, 1) := by decide +kernel
theorem dX6_heard_121 : decode cX6_heard 121 = .ok (.iconst (-1), 1) := by decide +kernel
theorem dX6_heard_122 : decode cX6_heard 122 = .ok (.ireturn, 1) := by decide +kernel
theorem dX6_filled_0 : decode cX6_filled 0 = .ok (.aload_n 0, 1) := by decide +kernel
theorem dX6_filled_1 : decode cX6_filled 1 = .ok (.getfield 49, 3) := by decide +kernel
theorem dX6_filled_4 : decode cX6_filled 4 = .ok (.iload_n 1, 1) := by decide +kernel
theorem dX6_filled_5 : decode cX6_filled 5 = .ok (.invokevirtual 251, 3) := by decide +kernel
theorem dX6_filled_8 : decode cX6_filled 8 = .ok (.ifCond .eq 14, 3) := by decide +kernel
theorem dX6_filled_11 : decode cX6_filled 11 = .ok (.aload_n 0, 1) := by decide +kernel
theorem dX6_filled_12 : decode cX6_filled 12 = .ok (.getfield 26, 3) := by decide +kernel
theorem dX6_filled_15 : decode cX6_filled 15 = .ok (.iload_n 2, 1) := by decide +kernel
theorem dX6_filled_16 : decode cX6_filled 16 = .ok (.invokevirtual 195, 3) := by decide +kernel
theorem dX6_filled_19 : decode cX6_filled 19 = .ok (.ifCond .ne 5, 3) := by decide +kernel
theorem dX6_filled_22 : decode cX6_filled 22 = .ok (.iconst (-1), 1) := by decide +kernel
theorem dX6_filled_23 : decode cX6_filled 23 = .ok (.ireturn, 1) := by decide +kernel
theorem dX6_filled_24 : decode cX6_filled 24 = .ok (.aload_n 0, 1) := by decide +kernel
theorem dX6_filled_25 : decode cX6_filled 25 = .ok (.getfield 49, 3) := by decide +kernel
theorem dX6_filled_28 : decode cX6_filled 28 = .ok (.iload_n 1, 1) := by decide +kernel
theorem dX6_filled_29 : decode cX6_filled 29 = .ok (.iload_n 3, 1) := by decide +kernel
theorem dX6_filled_30 : decode cX6_filled 30 = .ok (.invokevirtual 274, 3) := by decide +kernel
theorem dX6_filled_33 : decode cX6_filled 33 = .ok (.ifCond .ne 5, 3) := by decide +kernel
theorem dX6_filled_36 : decode cX6_filled 36 = .ok (.iconst (-1), 1) := by decide +kernel
theorem dX6_filled_37 : decode cX6_filled 37 = .ok (.ireturn, 1) := by decide +kernel
theorem dX6_filled_38 : decode cX6_filled 38 = .ok (.aload_n 0, 1) := by decide +kernel
theorem dX6_filled_39 : decode cX6_filled 39 = .ok (.iload_n 1, 1) := by decide +kernel
theorem dX6_filled_40 : decode cX6_filled 40 = .ok (.iload_n 2, 1) := by decide +kernel
theorem dX6_filled_41 : decode cX6_filled 41 = .ok (.invokevirtual 254, 3) := by decide +kernel
theorem dX6_filled_44 : decode cX6_filled 44 = .ok (.aload_n 0, 1) := by decide +kernel
theorem dX6_filled_45 : decode cX6_filled 45 = .ok (.getfield 42, 3) := by decide +kernel
theorem dX6_filled_48 : decode cX6_filled 48 = .ok (.aload_n 0, 1) := by decide +kernel
theorem dX6_filled_49 : decode cX6_filled 49 = .ok (.getfield 49, 3) := by decide +kernel
theorem dX6_filled_52 : decode cX6_filled 52 = .ok (.getfield 257, 3) := by decide +kernel
theorem dX6_filled_55 : decode cX6_filled 55 = .ok (.iload_n 1, 1) := by decide +kernel
theorem dX6_filled_56 : decode cX6_filled 56 = .ok (.iaload, 1) := by decide +kernel
theorem dX6_filled_57 : decode cX6_filled 57 = .ok (.iload_n 3, 1) := by decide +kernel
theorem dX6_filled_58 : decode cX6_filled 58 = .ok (.invokevirtual 277, 3) := by decide +kernel
theorem dX6_filled_61 : decode cX6_filled 61 = .ok (.istore 4, 2) := by decide +kernel
theorem dX6_filled_63 : decode cX6_filled 63 = .ok (.iload 4, 2) := by decide +kernel
theorem dX6_filled_65 : decode cX6_filled 65 = .ok (.iconst (-1), 1) := by decide +kernel
theorem dX6_filled_66 : decode cX6_filled 66 = .ok (.if_icmp .ne 8, 3) := by decide +kernel
theorem dX6_filled_69 : decode cX6_filled 69 = .ok (.bipush (-3), 2) := by decide +kernel
theorem dX6_filled_71 : decode cX6_filled 71 = .ok (.goto 5, 3) := by decide +kernel
theorem dX6_filled_74 : decode cX6_filled 74 = .ok (.iload 4, 2) := by decide +kernel
theorem dX6_filled_76 : decode cX6_filled 76 = .ok (.ireturn, 1) := by decide +kernel
theorem dX6_count_0 : decode cX6_count 0 = .ok (.iload_n 1, 1) := by decide +kernel
theorem dX6_count_1 : decode cX6_count 1 = .ok (.tableswitch 123 0 8 #[51, 59, 67, 75, 83, 91, 99, 107, 115], 51) := by decide +kernel
theorem dX6_count_52 : decode cX6_count 52 = .ok (.aload_n 0, 1) := by decide +kernel
theorem dX6_count_53 : decode cX6_count 53 = .ok (.getfield 10, 3) := by decide +kernel
theorem dX6_count_56 : decode cX6_count 56 = .ok (.getfield 69, 3) := by decide +kernel
theorem dX6_count_59 : decode cX6_count 59 = .ok (.ireturn, 1) := by decide +kernel
theorem dX6_count_60 : decode cX6_count 60 = .ok (.aload_n 0, 1) := by decide +kernel
theorem dX6_count_61 : decode cX6_count 61 = .ok (.getfield 10, 3) := by decide +kernel
theorem dX6_count_64 : decode cX6_count 64 = .ok (.getfield 86, 3) := by decide +kernel
theorem dX6_count_67 : decode cX6_count 67 = .ok (.ireturn, 1) := by decide +kernel
theorem dX6_count_68 : decode cX6_count 68 = .ok (.aload_n 0, 1) := by decide +kernel
theorem dX6_count_69 : decode cX6_count 69 = .ok (.getfield 19, 3) := by decide +kernel
theorem dX6_count_72 : decode cX6_count 72 = .ok (.getfield 280, 3) := by decide +kernel
theorem dX6_count_75 : decode cX6_count 75 = .ok (.ireturn, 1) := by decide +kernel
theorem dX6_count_76 : decode cX6_count 76 = .ok (.aload_n 0, 1) := by decide +kernel
theorem dX6_count_77 : decode cX6_count 77 = .ok (.getfield 26, 3) := by decide +kernel
theorem dX6_count_80 : decode cX6_count 80 = .ok (.getfield 179, 3) := by decide +kernel
theorem dX6_count_83 : decode cX6_count 83 = .ok (.ireturn, 1) := by decide +kernel
theorem dX6_count_84 : decode cX6_count 84 = .ok (.aload_n 0, 1) := by decide +kernel
theorem dX6_count_85 : decode cX6_count 85 = .ok (.getfield 26, 3) := by decide +kernel
theorem dX6_count_88 : decode cX6_count 88 = .ok (.getfield 188, 3) := by decide +kernel
theorem dX6_count_91 : decode cX6_count 91 = .ok (.ireturn, 1) := by decide +kernel
theorem dX6_count_92 : decode cX6_count 92 = .ok (.aload_n 0, 1) := by decide +kernel
theorem dX6_count_93 : decode cX6_count 93 = .ok (.getfield 49, 3) := by decide +kernel
theorem dX6_count_96 : decode cX6_count 96 = .ok (.getfield 244, 3) := by decide +kernel
theorem dX6_count_99 : decode cX6_count 99 = .ok (.ireturn, 1) := by decide +kernel
theorem dX6_count_100 : decode cX6_count 100 = .ok (.aload_n 0, 1) := by decide +kernel
theorem dX6_count_101 : decode cX6_count 101 = .ok (.getfield 19, 3) := by decide +kernel
theorem dX6_count_104 : decode cX6_count 104 = .ok (.getfield 143, 3) := by decide +kernel
theorem dX6_count_107 : decode cX6_count 107 = .ok (.ireturn, 1) := by decide +kernel
theorem dX6_count_108 : decode cX6_count 108 = .ok (.aload_n 0, 1) := by decide +kernel
theorem dX6_count_109 : decode cX6_count 109 = .ok (.getfield 19, 3) := by decide +kernel
theorem dX6_count_112 : decode cX6_count 112 = .ok (.getfield 153, 3) := by decide +kernel
theorem dX6_count_115 : decode cX6_count 115 = .ok (.ireturn, 1) := by decide +kernel
theorem dX6_count_116 : decode cX6_count 116 = .ok (.aload_n 0, 1) := by decide +kernel
theorem dX6_count_117 : decode cX6_count 117 = .ok (.getfield 10, 3) := by decide +kernel
theorem dX6_count_120 : decode cX6_count 120 = .ok (.invokevirtual 283, 3) := by decide +kernel
theorem dX6_count_123 : decode cX6_count 123 = .ok (.ireturn, 1) := by decide +kernel
theorem dX6_count_124 : decode cX6_count 124 = .ok (.iconst (-1), 1) := by decide +kernel
theorem dX6_count_125 : decode cX6_count 125 = .ok (.ireturn, 1) := by decide +kernel
theorem dX6_stockBehind_0 : decode cX6_stockBehind 0 = .ok (.aload_n 0, 1) := by decide +kernel
theorem dX6_stockBehind_1 : decode cX6_stockBehind 1 = .ok (.getfield 26, 3) := by decide +kernel
theorem dX6_stockBehind_4 : decode cX6_stockBehind 4 = .ok (.aload_n 0, 1) := by decide +kernel
theorem dX6_stockBehind_5 : decode cX6_stockBehind 5 = .ok (.getfield 49, 3) := by decide +kernel
theorem dX6_stockBehind_8 : decode cX6_stockBehind 8 = .ok (.getfield 286, 3) := by decide +kernel
theorem dX6_stockBehind_11 : decode cX6_stockBehind 11 = .ok (.iload_n 1, 1) := by decide +kernel
theorem dX6_stockBehind_12 : decode cX6_stockBehind 12 = .ok (.iaload, 1) := by decide +kernel
theorem dX6_stockBehind_13 : decode cX6_stockBehind 13 = .ok (.aload_n 0, 1) := by decide +kernel
theorem dX6_stockBehind_14 : decode cX6_stockBehind 14 = .ok (.getfield 49, 3) := by decide +kernel
theorem dX6_stockBehind_17 : decode cX6_stockBehind 17 = .ok (.getfield 289, 3) := by decide +kernel
theorem dX6_stockBehind_20 : decode cX6_stockBehind 20 = .ok (.iload_n 1, 1) := by decide +kernel
theorem dX6_stockBehind_21 : decode cX6_stockBehind 21 = .ok (.iaload, 1) := by decide +kernel
theorem dX6_stockBehind_22 : decode cX6_stockBehind 22 = .ok (.iload_n 2, 1) := by decide +kernel
theorem dX6_stockBehind_23 : decode cX6_stockBehind 23 = .ok (.invokevirtual 165, 3) := by decide +kernel
theorem dX6_stockBehind_26 : decode cX6_stockBehind 26 = .ok (.lreturn, 1) := by decide +kernel
theorem dX6_takeRecording_0 : decode cX6_takeRecording 0 = .ok (.aload_n 0, 1) := by decide +kernel
theorem dX6_takeRecording_1 : decode cX6_takeRecording 1 = .ok (.getfield 42, 3) := by decide +kernel
theorem dX6_takeRecording_4 : decode cX6_takeRecording 4 = .ok (.aload_n 0, 1) := by decide +kernel
theorem dX6_takeRecording_5 : decode cX6_takeRecording 5 = .ok (.getfield 49, 3) := by decide +kernel
theorem dX6_takeRecording_8 : decode cX6_takeRecording 8 = .ok (.getfield 292, 3) := by decide +kernel
theorem dX6_takeRecording_11 : decode cX6_takeRecording 11 = .ok (.iload_n 1, 1) := by decide +kernel
theorem dX6_takeRecording_12 : decode cX6_takeRecording 12 = .ok (.bipush 24, 2) := by decide +kernel
theorem dX6_takeRecording_14 : decode cX6_takeRecording 14 = .ok (.imul, 1) := by decide +kernel
theorem dX6_takeRecording_15 : decode cX6_takeRecording 15 = .ok (.aload_n 0, 1) := by decide +kernel
theorem dX6_takeRecording_16 : decode cX6_takeRecording 16 = .ok (.getfield 49, 3) := by decide +kernel
theorem dX6_takeRecording_19 : decode cX6_takeRecording 19 = .ok (.getfield 271, 3) := by decide +kernel
theorem dX6_takeRecording_22 : decode cX6_takeRecording 22 = .ok (.iload_n 1, 1) := by decide +kernel
theorem dX6_takeRecording_23 : decode cX6_takeRecording 23 = .ok (.iaload, 1) := by decide +kernel
theorem dX6_takeRecording_24 : decode cX6_takeRecording 24 = .ok (.aload_n 0, 1) := by decide +kernel
theorem dX6_takeRecording_25 : decode cX6_takeRecording 25 = .ok (.iload_n 1, 1) := by decide +kernel
theorem dX6_takeRecording_26 : decode cX6_takeRecording 26 = .ok (.iload_n 2, 1) := by decide +kernel
theorem dX6_takeRecording_27 : decode cX6_takeRecording 27 = .ok (.invokevirtual 260, 3) := by decide +kernel
theorem dX6_takeRecording_30 : decode cX6_takeRecording 30 = .ok (.invokevirtual 234, 3) := by decide +kernel
theorem dX6_takeRecording_33 : decode cX6_takeRecording 33 = .ok (.return_, 1) := by decide +kernel
theorem dX6_inside_0 : decode cX6_inside 0 = .ok (.iload_n 0, 1) := by decide +kernel
theorem dX6_inside_1 : decode cX6_inside 1 = .ok (.iload_n 1, 1) := by decide +kernel
theorem dX6_inside_2 : decode cX6_inside 2 = .ok (.if_icmp .lt 12, 3) := by decide +kernel
theorem dX6_inside_5 : decode cX6_inside 5 = .ok (.iload_n 0, 1) := by decide +kernel
theorem dX6_inside_6 : decode cX6_inside 6 = .ok (.iload_n 2, 1) := by decide +kernel
theorem dX6_inside_7 : decode cX6_inside 7 = .ok (.if_icmp .gt 7, 3) := by decide +kernel
theorem dX6_inside_10 : decode cX6_inside 10 = .ok (.iconst 1, 1) := by decide +kernel
theorem dX6_inside_11 : decode cX6_inside 11 = .ok (.goto 4, 3) := by decide +kernel
theorem dX6_inside_14 : decode cX6_inside 14 = .ok (.iconst 0, 1) := by decide +kernel
theorem dX6_inside_15 : decode cX6_inside 15 = .ok (.ireturn, 1) := by decide +kernel
theorem dX6_areBits_0 : decode cX6_areBits 0 = .ok (.iload_n 0, 1) := by decide +kernel
theorem dX6_areBits_1 : decode cX6_areBits 1 = .ok (.ifCond .lt 14, 3) := by decide +kernel
theorem dX6_areBits_4 : decode cX6_areBits 4 = .ok (.iload_n 0, 1) := by decide +kernel
theorem dX6_areBits_5 : decode cX6_areBits 5 = .ok (.iconst 1, 1) := by decide +kernel
theorem dX6_areBits_6 : decode cX6_areBits 6 = .ok (.iload_n 1, 1) := by decide +kernel
theorem dX6_areBits_7 : decode cX6_areBits 7 = .ok (.ishl, 1) := by decide +kernel
theorem dX6_areBits_8 : decode cX6_areBits 8 = .ok (.if_icmp .ge 7, 3) := by decide +kernel
theorem dX6_areBits_11 : decode cX6_areBits 11 = .ok (.iconst 1, 1) := by decide +kernel
theorem dX6_areBits_12 : decode cX6_areBits 12 = .ok (.goto 4, 3) := by decide +kernel
theorem dX6_areBits_15 : decode cX6_areBits 15 = .ok (.iconst 0, 1) := by decide +kernel
theorem dX6_areBits_16 : decode cX6_areBits 16 = .ok (.ireturn, 1) := by decide +kernel
theorem dX6_isYear_0 : decode cX6_isYear 0 = .ok (.iload_n 0, 1) := by decide +kernel
theorem dX6_isYear_1 : decode cX6_isYear 1 = .ok (.iconst 0, 1) := by decide +kernel
theorem dX6_isYear_2 : decode cX6_isYear 2 = .ok (.sipush 999, 3) := by decide +kernel
theorem dX6_isYear_5 : decode cX6_isYear 5 = .ok (.invokestatic 61, 3) := by decide +kernel
theorem dX6_isYear_8 : decode cX6_isYear 8 = .ok (.ireturn, 1) := by decide +kernel
theorem dX6_bit_0 : decode cX6_bit 0 = .ok (.lload_n 0, 1) := by decide +kernel
theorem dX6_bit_1 : decode cX6_bit 1 = .ok (.iload_n 2, 1) := by decide +kernel
theorem dX6_bit_2 : decode cX6_bit 2 = .ok (.lushr, 1) := by decide +kernel
theorem dX6_bit_3 : decode cX6_bit 3 = .ok (.lconst 1, 1) := by decide +kernel
theorem dX6_bit_4 : decode cX6_bit 4 = .ok (.land, 1) := by decide +kernel
theorem dX6_bit_5 : decode cX6_bit 5 = .ok (.l2i, 1) := by decide +kernel
theorem dX6_bit_6 : decode cX6_bit 6 = .ok (.ireturn, 1) := by decide +kernel
theorem dX6_listed_0 : decode cX6_listed 0 = .ok (.iload_n 2, 1) := by decide +kernel
theorem dX6_listed_1 : decode cX6_listed 1 = .ok (.iconst (-1), 1) := by decide +kernel
theorem dX6_listed_2 : decode cX6_listed 2 = .ok (.if_icmp .ne 5, 3) := by decide +kernel
theorem dX6_listed_5 : decode cX6_listed 5 = .ok (.iload_n 1, 1) := by decide +kernel
theorem dX6_listed_6 : decode cX6_listed 6 = .ok (.ireturn, 1) := by decide +kernel
theorem dX6_listed_7 : decode cX6_listed 7 = .ok (.iload_n 2, 1) := by decide +kernel
theorem dX6_listed_8 : decode cX6_listed 8 = .ok (.ifCond .lt 20, 3) := by decide +kernel
theorem dX6_listed_11 : decode cX6_listed 11 = .ok (.iload_n 2, 1) := by decide +kernel
theorem dX6_listed_12 : decode cX6_listed 12 = .ok (.iload_n 1, 1) := by decide +kernel
theorem dX6_listed_13 : decode cX6_listed 13 = .ok (.if_icmp .ge 15, 3) := by decide +kernel
theorem dX6_listed_16 : decode cX6_listed 16 = .ok (.iload_n 2, 1) := by decide +kernel
theorem dX6_listed_17 : decode cX6_listed 17 = .ok (.aload_n 0, 1) := by decide +kernel
theorem dX6_listed_18 : decode cX6_listed 18 = .ok (.arraylength, 1) := by decide +kernel
theorem dX6_listed_19 : decode cX6_listed 19 = .ok (.if_icmp .ge 9, 3) := by decide +kernel
theorem dX6_listed_22 : decode cX6_listed 22 = .ok (.aload_n 0, 1) := by decide +kernel
theorem dX6_listed_23 : decode cX6_listed 23 = .ok (.iload_n 2, 1) := by decide +kernel
theorem dX6_listed_24 : decode cX6_listed 24 = .ok (.iaload, 1) := by decide +kernel
theorem dX6_listed_25 : decode cX6_listed 25 = .ok (.goto 4, 3) := by decide +kernel
theorem dX6_listed_28 : decode cX6_listed 28 = .ok (.iconst (-1), 1) := by decide +kernel
theorem dX6_listed_29 : decode cX6_listed 29 = .ok (.ireturn, 1) := by decide +kernel
theorem dX6_pick_0 : decode cX6_pick 0 = .ok (.iload_n 2, 1) := by decide +kernel
theorem dX6_pick_1 : decode cX6_pick 1 = .ok (.istore_n 3, 1) := by decide +kernel
theorem dX6_pick_2 : decode cX6_pick 2 = .ok (.iconst 0, 1) := by decide +kernel
theorem dX6_pick_3 : decode cX6_pick 3 = .ok (.istore 4, 2) := by decide +kernel
theorem dX6_pick_5 : decode cX6_pick 5 = .ok (.iload 4, 2) := by decide +kernel
theorem dX6_pick_7 : decode cX6_pick 7 = .ok (.bipush 40, 2) := by decide +kernel
theorem dX6_pick_9 : decode cX6_pick 9 = .ok (.if_icmp .ge 29, 3) := by decide +kernel
theorem dX6_pick_12 : decode cX6_pick 12 = .ok (.lload_n 0, 1) := by decide +kernel
theorem dX6_pick_13 : decode cX6_pick 13 = .ok (.iload 4, 2) := by decide +kernel
theorem dX6_pick_15 : decode cX6_pick 15 = .ok (.invokestatic 115, 3) := by decide +kernel
theorem dX6_pick_18 : decode cX6_pick 18 = .ok (.iconst 1, 1) := by decide +kernel
theorem dX6_pick_19 : decode cX6_pick 19 = .ok (.if_icmp .ne 13, 3) := by decide +kernel
theorem dX6_pick_22 : decode cX6_pick 22 = .ok (.iload_n 3, 1) := by decide +kernel
theorem dX6_pick_23 : decode cX6_pick 23 = .ok (.ifCond .ne 6, 3) := by decide +kernel
theorem dX6_pick_26 : decode cX6_pick 26 = .ok (.iload 4, 2) := by decide +kernel
theorem dX6_pick_28 : decode cX6_pick 28 = .ok (.ireturn, 1) := by decide +kernel
theorem dX6_pick_29 : decode cX6_pick 29 = .ok (.iinc 3 (-1), 3) := by decide +kernel
theorem dX6_pick_32 : decode cX6_pick 32 = .ok (.iinc 4 1, 3) := by decide +kernel
theorem dX6_pick_35 : decode cX6_pick 35 = .ok (.goto (-30), 3) := by decide +kernel
theorem dX6_pick_38 : decode cX6_pick 38 = .ok (.iconst (-1), 1) := by decide +kernel
theorem dX6_pick_39 : decode cX6_pick 39 = .ok (.ireturn, 1) := by decide +kernel
theorem dX6_isSlot_0 : decode cX6_isSlot 0 = .ok (.iload_n 0, 1) := by decide +kernel
theorem dX6_isSlot_1 : decode cX6_isSlot 1 = .ok (.bipush 97, 2) := by decide +kernel
theorem dX6_isSlot_3 : decode cX6_isSlot 3 = .ok (.if_icmp .lt 13, 3) := by decide +kernel
theorem dX6_isSlot_6 : decode cX6_isSlot 6 = .ok (.iload_n 0, 1) := by decide +kernel
theorem dX6_isSlot_7 : decode cX6_isSlot 7 = .ok (.bipush 104, 2) := by decide +kernel
theorem dX6_isSlot_9 : decode cX6_isSlot 9 = .ok (.if_icmp .gt 7, 3) := by decide +kernel
theorem dX6_isSlot_12 : decode cX6_isSlot 12 = .ok (.iconst 1, 1) := by decide +kernel
theorem dX6_isSlot_13 : decode cX6_isSlot 13 = .ok (.goto 4, 3) := by decide +kernel
theorem dX6_isSlot_16 : decode cX6_isSlot 16 = .ok (.iconst 0, 1) := by decide +kernel
theorem dX6_isSlot_17 : decode cX6_isSlot 17 = .ok (.ireturn, 1) := by decide +kernel
theorem dX6_isScene_0 : decode cX6_isScene 0 = .ok (.iload_n 0, 1) := by decide +kernel
theorem dX6_isScene_1 : decode cX6_isScene 1 = .ok (.bipush 65, 2) := by decide +kernel
theorem dX6_isScene_3 : decode cX6_isScene 3 = .ok (.if_icmp .lt 13, 3) := by decide +kernel
theorem dX6_isScene_6 : decode cX6_isScene 6 = .ok (.iload_n 0, 1) := by decide +kernel
theorem dX6_isScene_7 : decode cX6_isScene 7 = .ok (.bipush 72, 2) := by decide +kernel
theorem dX6_isScene_9 : decode cX6_isScene 9 = .ok (.if_icmp .gt 7, 3) := by decide +kernel
theorem dX6_isScene_12 : decode cX6_isScene 12 = .ok (.iconst 1, 1) := by decide +kernel
theorem dX6_isScene_13 : decode cX6_isScene 13 = .ok (.goto 4, 3) := by decide +kernel
theorem dX6_isScene_16 : decode cX6_isScene 16 = .ok (.iconst 0, 1) := by decide +kernel
theorem dX6_isScene_17 : decode cX6_isScene 17 = .ok (.ireturn, 1) := by decide +kernel
end
section
theorem dX7_init_0 : decode cX7_init 0 = .ok (.aload_n 0, 1) := by decide +kernel
theorem dX7_init_1 : decode cX7_init 1 = .ok (.invokespecial 1, 3) := by decide +kernel
theorem dX7_init_4 : decode cX7_init 4 = .ok (.aload_n 0, 1) := by decide +kernel
theorem dX7_init_5 : decode cX7_init 5 = .ok (.bipush 40, 2) := by decide +kernel
theorem dX7_init_7 : decode cX7_init 7 = .ok (.newarray .int, 2) := by decide +kernel
theorem dX7_init_9 : decode cX7_init 9 = .ok (.putfield 7, 3) := by decide +kernel
theorem dX7_init_12 : decode cX7_init 12 = .ok (.aload_n 0, 1) := by decide +kernel
theorem dX7_init_13 : decode cX7_init 13 = .ok (.bipush 40, 2) := by decide +kernel
theorem dX7_init_15 : decode cX7_init 15 = .ok (.newarray .int, 2) := by decide +kernel
theorem dX7_init_17 : decode cX7_init 17 = .ok (.putfield 13, 3) := by decide +kernel
theorem dX7_init_20 : decode cX7_init 20 = .ok (.aload_n 0, 1) := by decide +kernel
theorem dX7_init_21 : decode cX7_init 21 = .ok (.bipush 40, 2) := by decide +kernel
theorem dX7_init_23 : decode cX7_init 23 = .ok (.newarray .int, 2) := by decide +kernel
theorem dX7_init_25 : decode cX7_init 25 = .ok (.putfield 16, 3) := by decide +kernel
theorem dX7_init_28 : decode cX7_init 28 = .ok (.aload_n 0, 1) := by decide +kernel
theorem dX7_init_29 : decode cX7_init 29 = .ok (.bipush 10, 2) := by decide +kernel
theorem dX7_init_31 : decode cX7_init 31 = .ok (.newarray .int, 2) := by decide +kernel
theorem dX7_init_33 : decode cX7_init 33 = .ok (.putfield 19, 3) := by decide +kernel
theorem dX7_init_36 : decode cX7_init 36 = .ok (.aload_n 0, 1) := by decide +kernel
theorem dX7_init_37 : decode cX7_init 37 = .ok (.bipush 10, 2) := by decide +kernel
theorem dX7_init_39 : decode cX7_init 39 = .ok (.newarray .int, 2) := by decide +kernel
theorem dX7_init_41 : decode cX7_init 41 = .ok (.putfield 22, 3) := by decide +kernel
theorem dX7_init_44 : decode cX7_init 44 = .ok (.aload_n 0, 1) := by decide +kernel
theorem dX7_init_45 : decode cX7_init 45 = .ok (.bipush 40, 2) := by decide +kernel
theorem dX7_init_47 : decode cX7_init 47 = .ok (.newarray .int, 2) := by decide +kernel
theorem dX7_init_49 : decode cX7_init 49 = .ok (.putfield 25, 3) := by decide +kernel
theorem dX7_init_52 : decode cX7_init 52 = .ok (.aload_n 0, 1) := by decide +kernel
theorem dX7_init_53 : decode cX7_init 53 = .ok (.bipush 40, 2) := by decide +kernel
theorem dX7_init_55 : decode cX7_init 55 = .ok (.newarray .int, 2) := by decide +kernel
theorem dX7_init_57 : decode cX7_init 57 = .ok (.putfield 28, 3) := by decide +kernel
theorem dX7_init_60 : decode cX7_init 60 = .ok (.aload_n 0, 1) := by decide +kernel
theorem dX7_init_61 : decode cX7_init 61 = .ok (.bipush 40, 2) := by decide +kernel
theorem dX7_init_63 : decode cX7_init 63 = .ok (.newarray .int, 2) := by decide +kernel
theorem dX7_init_65 : decode cX7_init 65 = .ok (.putfield 31, 3) := by decide +kernel
theorem dX7_init_68 : decode cX7_init 68 = .ok (.aload_n 0, 1) := by decide +kernel
theorem dX7_init_69 : decode cX7_init 69 = .ok (.bipush 40, 2) := by decide +kernel
theorem dX7_init_71 : decode cX7_init 71 = .ok (.newarray .int, 2) := by decide +kernel
theorem dX7_init_73 : decode cX7_init 73 = .ok (.putfield 34, 3) := by decide +kernel
theorem dX7_init_76 : decode cX7_init 76 = .ok (.aload_n 0, 1) := by decide +kernel
theorem dX7_init_77 : decode cX7_init 77 = .ok (.bipush 40, 2) := by decide +kernel
theorem dX7_init_79 : decode cX7_init 79 = .ok (.newarray .int, 2) := by decide +kernel
theorem dX7_init_81 : decode cX7_init 81 = .ok (.putfield 37, 3) := by decide +kernel
theorem dX7_init_84 : decode cX7_init 84 = .ok (.aload_n 0, 1) := by decide +kernel
theorem dX7_init_85 : decode cX7_init 85 = .ok (.iconst 3, 1) := by decide +kernel
theorem dX7_init_86 : decode cX7_init 86 = .ok (.newarray .int, 2) := by decide +kernel
theorem dX7_init_88 : decode cX7_init 88 = .ok (.dup, 1) := by decide +kernel
theorem dX7_init_89 : decode cX7_init 89 = .ok (.iconst 0, 1) := by decide +kernel
theorem dX7_init_90 : decode cX7_init 90 = .ok (.iconst 4, 1) := by decide +kernel
theorem dX7_init_91 : decode cX7_init 91 = .ok (.iastore, 1) := by decide +kernel
theorem dX7_init_92 : decode cX7_init 92 = .ok (.dup, 1) := by decide +kernel
theorem dX7_init_93 : decode cX7_init 93 = .ok (.iconst 1, 1) := by decide +kernel
theorem dX7_init_94 : decode cX7_init 94 = .ok (.bipush 6, 2) := by decide +kernel
theorem dX7_init_96 : decode cX7_init 96 = .ok (.iastore, 1) := by decide +kernel
theorem dX7_init_97 : decode cX7_init 97 = .ok (.dup, 1) := by decide +kernel
theorem dX7_init_98 : decode cX7_init 98 = .ok (.iconst 2, 1) := by decide +kernel
theorem dX7_init_99 : decode cX7_init 99 = .ok (.iconst 0, 1) := by decide +kernel
theorem dX7_init_100 : decode cX7_init 100 = .ok (.iastore, 1) := by decide +kernel
theorem dX7_init_101 : decode cX7_init 101 = .ok (.putfield 40, 3) := by decide +kernel
theorem dX7_init_104 : decode cX7_init 104 = .ok (.aload_n 0, 1) := by decide +kernel
theorem dX7_init_105 : decode cX7_init 105 = .ok (.bipush 40, 2) := by decide +kernel
theorem dX7_init_107 : decode cX7_init 107 = .ok (.newarray .int, 2) := by decide +kernel
theorem dX7_init_109 : decode cX7_init 109 = .ok (.putfield 43, 3) := by decide +kernel
theorem dX7_init_112 : decode cX7_init 112 = .ok (.aload_n 0, 1) := by decide +kernel
theorem dX7_init_113 : decode cX7_init 113 = .ok (.bipush 60, 2) := by decide +kernel
theorem dX7_init_115 : decode cX7_init 115 = .ok (.newarray .int, 2) := by decide +kernel
theorem dX7_init_117 : decode cX7_init 117 = .ok (.putfield 46, 3) := by decide +kernel
theorem dX7_init_120 : decode cX7_init 120 = .ok (.aload_n 0, 1) := by decide +kernel
theorem dX7_init_121 : decode cX7_init 121 = .ok (.sipush 480, 3) := by decide +kernel
theorem dX7_init_124 : decode cX7_init 124 = .ok (.newarray .int, 2) := by decide +kernel
theorem dX7_init_126 : decode cX7_init 126 = .ok (.putfield 49, 3) := by decide +kernel
theorem dX7_init_129 : decode cX7_init 129 = .ok (.aload_n 0, 1) := by decide +kernel
theorem dX7_init_130 : decode cX7_init 130 = .ok (.bipush 8, 2) := by decide +kernel
theorem dX7_init_132 : decode cX7_init 132 = .ok (.newarray .int, 2) := by decide +kernel
theorem dX7_init_134 : decode cX7_init 134 = .ok (.putfield 52, 3) := by decide +kernel
theorem dX7_init_137 : decode cX7_init 137 = .ok (.aload_n 0, 1) := by decide +kernel
theorem dX7_init_138 : decode cX7_init 138 = .ok (.bipush 8, 2) := by decide +kernel
theorem dX7_init_140 : decode cX7_init 140 = .ok (.newarray .int, 2) := by decide +kernel
theorem dX7_init_142 : decode cX7_init 142 = .ok (.putfield 55, 3) := by decide +kernel
theorem dX7_init_145 : decode cX7_init 145 = .ok (.aload_n 0, 1) := by decide +kernel
theorem dX7_init_146 : decode cX7_init 146 = .ok (.bipush 60, 2) := by decide +kernel
theorem dX7_init_148 : decode cX7_init 148 = .ok (.newarray .int, 2) := by decide +kernel
theorem dX7_init_150 : decode cX7_init 150 = .ok (.putfield 58, 3) := by decide +kernel
theorem dX7_init_153 : decode cX7_init 153 = .ok (.aload_n 0, 1) := by decide +kernel
theorem dX7_init_154 : decode cX7_init 154 = .ok (.iconst 1, 1) := by decide +kernel
theorem dX7_init_155 : decode cX7_init 155 = .ok (.putfield 61, 3) := by decide +kernel
theorem dX7_init_158 : decode cX7_init 158 = .ok (.aload_n 0, 1) := by decide +kernel
theorem dX7_init_159 : decode cX7_init 159 = .ok (.bipush 9, 2) := by decide +kernel
theorem dX7_init_161 : decode cX7_init 161 = .ok (.newarray .int, 2) := by decide +kernel
theorem dX7_init_163 : decode cX7_init 163 = .ok (.putfield 65, 3) := by decide +kernel
theorem dX7_init_166 : decode cX7_init 166 = .ok (.aload_n 0, 1) := by decide +kernel
theorem dX7_init_167 : decode cX7_init 167 = .ok (.bipush 9, 2) := by decide +kernel
theorem dX7_init_169 : decode cX7_init 169 = .ok (.newarray .int, 2) := by decide +kernel
theorem dX7_init_171 : decode cX7_init 171 = .ok (.putfield 68, 3) := by decide +kernel
theorem dX7_init_174 : decode cX7_init 174 = .ok (.aload_n 0, 1) := by decide +kernel
theorem dX7_init_175 : decode cX7_init 175 = .ok (.sipush 500, 3) := by decide +kernel
theorem dX7_init_178 : decode cX7_init 178 = .ok (.newarray .int, 2) := by decide +kernel
theorem dX7_init_180 : decode cX7_init 180 = .ok (.putfield 71, 3) := by decide +kernel
theorem dX7_init_183 : decode cX7_init 183 = .ok (.aload_n 0, 1) := by decide +kernel
theorem dX7_init_184 : decode cX7_init 184 = .ok (.sipush 500, 3) := by decide +kernel
theorem dX7_init_187 : decode cX7_init 187 = .ok (.newarray .int, 2) := by decide +kernel
theorem dX7_init_189 : decode cX7_init 189 = .ok (.putfield 74, 3) := by decide +kernel
theorem dX7_init_192 : decode cX7_init 192 = .ok (.aload_n 0, 1) := by decide +kernel
theorem dX7_init_193 : decode cX7_init 193 = .ok (.bipush 40, 2) := by decide +kernel
theorem dX7_init_195 : decode cX7_init 195 = .ok (.newarray .int, 2) := by decide +kernel
theorem dX7_init_197 : decode cX7_init 197 = .ok (.putfield 77, 3) := by decide +kernel
theorem dX7_init_200 : decode cX7_init 200 = .ok (.aload_n 0, 1) := by decide +kernel
theorem dX7_init_201 : decode cX7_init 201 = .ok (.bipush 40, 2) := by decide +kernel
theorem dX7_init_203 : decode cX7_init 203 = .ok (.newarray .int, 2) := by decide +kernel
theorem dX7_init_205 : decode cX7_init 205 = .ok (.putfield 80, 3) := by decide +kernel
theorem dX7_init_208 : decode cX7_init 208 = .ok (.aload_n 0, 1) := by decide +kernel
theorem dX7_init_209 : decode cX7_init 209 = .ok (.sipush 5000, 3) := by decide +kernel
theorem dX7_init_212 : decode cX7_init 212 = .ok (.newarray .int, 2) := by decide +kernel
theorem dX7_init_214 : decode cX7_init 214 = .ok (.putfield 83, 3) := by decide +kernel
theorem dX7_init_217 : decode cX7_init 217 = .ok (.aload_n 0, 1) := by decide +kernel
theorem dX7_init_218 : decode cX7_init 218 = .ok (.sipush 19375, 3) := by decide +kernel
theorem dX7_init_221 : decode cX7_init 221 = .ok (.newarray .int, 2) := by decide +kernel
theorem dX7_init_223 : decode cX7_init 223 = .ok (.putfield 86, 3) := by decide +kernel
theorem dX7_init_226 : decode cX7_init 226 = .ok (.aload_n 0, 1) := by decide +kernel
theorem dX7_init_227 : decode cX7_init 227 = .ok (.sipush 19375, 3) := by decide +kernel
theorem dX7_init_230 : decode cX7_init 230 = .ok (.newarray .int, 2) := by decide +kernel
theorem dX7_init_232 : decode cX7_init 232 = .ok (.putfield 89, 3) := by decide +kernel
theorem dX7_init_235 : decode cX7_init 235 = .ok (.aload_n 0, 1) := by decide +kernel
theorem dX7_init_236 : decode cX7_init 236 = .ok (.sipush 625, 3) := by decide +kernel
theorem dX7_init_239 : decode cX7_init 239 = .ok (.newarray .int, 2) := by decide +kernel
theorem dX7_init_241 : decode cX7_init 241 = .ok (.putfield 92, 3) := by decide +kernel
theorem dX7_init_244 : decode cX7_init 244 = .ok (.aload_n 0, 1) := by decide +kernel
theorem dX7_init_245 : decode cX7_init 245 = .ok (.sipush 625, 3) := by decide +kernel
theorem dX7_init_248 : decode cX7_init 248 = .ok (.newarray .int, 2) := by decide +kernel
theorem dX7_init_250 : decode cX7_init 250 = .ok (.putfield 95, 3) := by decide +kernel
theorem dX7_init_253 : decode cX7_init 253 = .ok (.aload_n 0, 1) := by decide +kernel
theorem dX7_init_254 : decode cX7_init 254 = .ok (.sipush 625, 3) := by decide +kernel
theorem dX7_init_257 : decode cX7_init 257 = .ok (.newarray .int, 2) := by decide +kernel
theorem dX7_init_259 : decode cX7_init 259 = .ok (.putfield 98, 3) := by decide +kernel
theorem dX7_init_262 : decode cX7_init 262 = .ok (.aload_n 0, 1) := by decide +kernel
theorem dX7_init_263 : decode cX7_init 263 = .ok (.bipush 24, 2) := by decide +kernel
theorem dX7_init_265 : decode cX7_init 265 = .ok (.newarray .int, 2) := by decide +kernel
theorem dX7_init_267 : decode cX7_init 267 = .ok (.putfield 101, 3) := by decide +kernel
theorem dX7_init_270 : decode cX7_init 270 = .ok (.aload_n 0, 1) := by decide +kernel
theorem dX7_init_271 : decode cX7_init 271 = .ok (.bipush 24, 2) := by decide +kernel
theorem dX7_init_273 : decode cX7_init 273 = .ok (.newarray .int, 2) := by decide +kernel
theorem dX7_init_275 : decode cX7_init 275 = .ok (.putfield 104, 3) := by decide +kernel
theorem dX7_init_278 : decode cX7_init 278 = .ok (.aload_n 0, 1) := by decide +kernel
theorem dX7_init_279 : decode cX7_init 279 = .ok (.bipush 8, 2) := by decide +kernel
theorem dX7_init_281 : decode cX7_init 281 = .ok (.newarray .int, 2) := by decide +kernel
theorem dX7_init_283 : decode cX7_init 283 = .ok (.putfield 107, 3) := by decide +kernel
theorem dX7_init_286 : decode cX7_init 286 = .ok (.aload_n 0, 1) := by decide +kernel
theorem dX7_init_287 : decode cX7_init 287 = .ok (.bipush 8, 2) := by decide +kernel
theorem dX7_init_289 : decode cX7_init 289 = .ok (.newarray .int, 2) := by decide +kernel
theorem dX7_init_291 : decode cX7_init 291 = .ok (.putfield 110, 3) := by decide +kernel
theorem dX7_init_294 : decode cX7_init 294 = .ok (.aload_n 0, 1) := by decide +kernel
theorem dX7_init_295 : decode cX7_init 295 = .ok (.sipush 200, 3) := by decide +kernel
theorem dX7_init_298 : decode cX7_init 298 = .ok (.newarray .int, 2) := by decide +kernel
theorem dX7_init_300 : decode cX7_init 300 = .ok (.putfield 113, 3) := by decide +kernel
theorem dX7_init_303 : decode cX7_init 303 = .ok (.aload_n 0, 1) := by decide +kernel
theorem dX7_init_304 : decode cX7_init 304 = .ok (.sipush 200, 3) := by decide +kernel
theorem dX7_init_307 : decode cX7_init 307 = .ok (.newarray .int, 2) := by decide +kernel
theorem dX7_init_309 : decode cX7_init 309 = .ok (.putfield 116, 3) := by decide +kernel
theorem dX7_init_312 : decode cX7_init 312 = .ok (.aload_n 0, 1) := by decide +kernel
theorem dX7_init_313 : decode cX7_init 313 = .ok (.sipush 200, 3) := by decide +kernel
theorem dX7_init_316 : decode cX7_init 316 = .ok (.newarray .int, 2) := by decide +kernel
theorem dX7_init_318 : decode cX7_init 318 = .ok (.putfield 119, 3) := by decide +kernel
theorem dX7_init_321 : decode cX7_init 321 = .ok (.aload_n 0, 1) := by decide +kernel
theorem dX7_init_322 : decode cX7_init 322 = .ok (.sipush 200, 3) := by decide +kernel
theorem dX7_init_325 : decode cX7_init 325 = .ok (.newarray .boolean, 2) := by decide +kernel
theorem dX7_init_327 : decode cX7_init 327 = .ok (.putfield 122, 3) := by decide +kernel
theorem dX7_init_330 : decode cX7_init 330 = .ok (.aload_n 0, 1) := by decide +kernel
theorem dX7_init_331 : decode cX7_init 331 = .ok (.bipush 40, 2) := by decide +kernel
theorem dX7_init_333 : decode cX7_init 333 = .ok (.newarray .boolean, 2) := by decide +kernel
theorem dX7_init_335 : decode cX7_init 335 = .ok (.putfield 126, 3) := by decide +kernel
theorem dX7_init_338 : decode cX7_init 338 = .ok (.aload_n 0, 1) := by decide +kernel
theorem dX7_init_339 : decode cX7_init 339 = .ok (.bipush 12, 2) := by decide +kernel
theorem dX7_init_341 : decode cX7_init 341 = .ok (.newarray .int, 2) := by decide +kernel
theorem dX7_init_343 : decode cX7_init 343 = .ok (.putfield 129, 3) := by decide +kernel
theorem dX7_init_346 : decode cX7_init 346 = .ok (.aload_n 0, 1) := by decide +kernel
theorem dX7_init_347 : decode cX7_init 347 = .ok (.bipush 12, 2) := by decide +kernel
theorem dX7_init_349 : decode cX7_init 349 = .ok (.newarray .int, 2) := by decide +kernel
theorem dX7_init_351 : decode cX7_init 351 = .ok (.putfield 132, 3) := by decide +kernel
theorem dX7_init_354 : decode cX7_init 354 = .ok (.aload_n 0, 1) := by decide +kernel
theorem dX7_init_355 : decode cX7_init 355 = .ok (.bipush 12, 2) := by decide +kernel
theorem dX7_init_357 : decode cX7_init 357 = .ok (.newarray .int, 2) := by decide +kernel
theorem dX7_init_359 : decode cX7_init 359 = .ok (.putfield 135, 3) := by decide +kernel
theorem dX7_init_362 : decode cX7_init 362 = .ok (.aload_n 0, 1) := by decide +kernel
theorem dX7_init_363 : decode cX7_init 363 = .ok (.bipush 12, 2) := by decide +kernel
theorem dX7_init_365 : decode cX7_init 365 = .ok (.newarray .int, 2) := by decide +kernel
theorem dX7_init_367 : decode cX7_init 367 = .ok (.putfield 138, 3) := by decide +kernel
theorem dX7_init_370 : decode cX7_init 370 = .ok (.aload_n 0, 1) := by decide +kernel
theorem dX7_init_371 : decode cX7_init 371 = .ok (.sipush 288, 3) := by decide +kernel
theorem dX7_init_374 : decode cX7_init 374 = .ok (.newarray .int, 2) := by decide +kernel
theorem dX7_init_376 : decode cX7_init 376 = .ok (.putfield 141, 3) := by decide +kernel
theorem dX7_init_379 : decode cX7_init 379 = .ok (.iconst 0, 1) := by decide +kernel
theorem dX7_init_380 : decode cX7_init 380 = .ok (.istore_n 1, 1) := by decide +kernel
theorem dX7_init_381 : decode cX7_init 381 = .ok (.iload_n 1, 1) := by decide +kernel
theorem dX7_init_382 : decode cX7_init 382 = .ok (.bipush 10, 2) := by decide +kernel
theorem dX7_init_384 : decode cX7_init 384 = .ok (.if_icmp .ge 16, 3) := by decide +kernel
theorem dX7_init_387 : decode cX7_init 387 = .ok (.aload_n 0, 1) := by decide +kernel
theorem dX7_init_388 : decode cX7_init 388 = .ok (.getfield 19, 3) := by decide +kernel
theorem dX7_init_391 : decode cX7_init 391 = .ok (.iload_n 1, 1) := by decide +kernel
theorem dX7_init_392 : decode cX7_init 392 = .ok (.iconst 1, 1) := by decide +kernel
theorem dX7_init_393 : decode cX7_init 393 = .ok (.iastore, 1) := by decide +kernel
theorem dX7_init_394 : decode cX7_init 394 = .ok (.iinc 1 1, 3) := by decide +kernel
theorem dX7_init_397 : decode cX7_init 397 = .ok (.goto (-16), 3) := by decide +kernel
theorem dX7_init_400 : decode cX7_init 400 = .ok (.return_, 1) := by decide +kernel
theorem dX7_isIn_0 : decode cX7_isIn 0 = .ok (.lload_n 0, 1) := by decide +kernel
theorem dX7_isIn_1 : decode cX7_isIn 1 = .ok (.lload_n 2, 1) := by decide +kernel
theorem dX7_isIn_2 : decode cX7_isIn 2 = .ok (.lcmp, 1) := by decide +kernel
theorem dX7_isIn_3 : decode cX7_isIn 3 = .ok (.ifCond .lt 14, 3) := by decide +kernel
theorem dX7_isIn_6 : decode cX7_isIn 6 = .ok (.lload_n 0, 1) := by decide +kernel
theorem dX7_isIn_7 : decode cX7_isIn 7 = .ok (.lload 4, 2) := by decide +kernel
theorem dX7_isIn_9 : decode cX7_isIn 9 = .ok (.lcmp, 1) := by decide +kernel
theorem dX7_isIn_10 : decode cX7_isIn 10 = .ok (.ifCond .gt 7, 3) := by decide +kernel
theorem dX7_isIn_13 : decode cX7_isIn 13 = .ok (.iconst 1, 1) := by decide +kernel
theorem dX7_isIn_14 : decode cX7_isIn 14 = .ok (.goto 4, 3) := by decide +kernel
theorem dX7_isIn_17 : decode cX7_isIn 17 = .ok (.iconst 0, 1) := by decide +kernel
theorem dX7_isIn_18 : decode cX7_isIn 18 = .ok (.ireturn, 1) := by decide +kernel
theorem dX7_isHalf_0 : decode cX7_isHalf 0 = .ok (.iload_n 1, 1) := by decide +kernel
theorem dX7_isHalf_1 : decode cX7_isHalf 1 = .ok (.ifCond .lt 15, 3) := by decide +kernel
theorem dX7_isHalf_4 : decode cX7_isHalf 4 = .ok (.iload_n 1, 1) := by decide +kernel
theorem dX7_isHalf_5 : decode cX7_isHalf 5 = .ok (.aload_n 0, 1) := by decide +kernel
theorem dX7_isHalf_6 : decode cX7_isHalf 6 = .ok (.getfield 144, 3) := by decide +kernel
theorem dX7_isHalf_9 : decode cX7_isHalf 9 = .ok (.if_icmp .ge 7, 3) := by decide +kernel
theorem dX7_isHalf_12 : decode cX7_isHalf 12 = .ok (.iconst 1, 1) := by decide +kernel
theorem dX7_isHalf_13 : decode cX7_isHalf 13 = .ok (.goto 4, 3) := by decide +kernel
theorem dX7_isHalf_16 : decode cX7_isHalf 16 = .ok (.iconst 0, 1) := by decide +kernel
theorem dX7_isHalf_17 : decode cX7_isHalf 17 = .ok (.ireturn, 1) := by decide +kernel
theorem dX7_isLine_0 : decode cX7_isLine 0 = .ok (.iload_n 1, 1) := by decide +kernel
theorem dX7_isLine_1 : decode cX7_isLine 1 = .ok (.ifCond .lt 15, 3) := by decide +kernel
theorem dX7_isLine_4 : decode cX7_isLine 4 = .ok (.iload_n 1, 1) := by decide +kernel
theorem dX7_isLine_5 : decode cX7_isLine 5 = .ok (.aload_n 0, 1) := by decide +kernel
theorem dX7_isLine_6 : decode cX7_isLine 6 = .ok (.getfield 147, 3) := by decide +kernel
theorem dX7_isLine_9 : decode cX7_isLine 9 = .ok (.if_icmp .ge 7, 3) := by decide +kernel
theorem dX7_isLine_12 : decode cX7_isLine 12 = .ok (.iconst 1, 1) := by decide +kernel
theorem dX7_isLine_13 : decode cX7_isLine 13 = .ok (.goto 4, 3) := by decide +kernel
theorem dX7_isLine_16 : decode cX7_isLine 16 = .ok (.iconst 0, 1) := by decide +kernel
theorem dX7_isLine_17 : decode cX7_isLine 17 = .ok (.ireturn, 1) := by decide +kernel
theorem dX7_isName_0 : decode cX7_isName 0 = .ok (.iload_n 0, 1) := by decide +kernel
theorem dX7_isName_1 : decode cX7_isName 1 = .ok (.ifCond .lt 13, 3) := by decide +kernel
theorem dX7_isName_4 : decode cX7_isName 4 = .ok (.iload_n 0, 1) := by decide +kernel
theorem dX7_isName_5 : decode cX7_isName 5 = .ok (.bipush 10, 2) := by decide +kernel
theorem dX7_isName_7 : decode cX7_isName 7 = .ok (.if_icmp .ge 7, 3) := by decide +kernel
theorem dX7_isName_10 : decode cX7_isName 10 = .ok (.iconst 1, 1) := by decide +kernel
theorem dX7_isName_11 : decode cX7_isName 11 = .ok (.goto 4, 3) := by decide +kernel
theorem dX7_isName_14 : decode cX7_isName 14 = .ok (.iconst 0, 1) := by decide +kernel
theorem dX7_isName_15 : decode cX7_isName 15 = .ok (.ireturn, 1) := by decide +kernel
theorem dX7_half_0 : decode cX7_half 0 = .ok (.iload_n 1, 1) := by decide +kernel
theorem dX7_half_1 : decode cX7_half 1 = .ok (.i2l, 1) := by decide +kernel
theorem dX7_half_2 : decode cX7_half 2 = .ok (.lconst 1, 1) := by decide +kernel
theorem dX7_half_3 : decode cX7_half 3 = .ok (.ldc2_w 150, 3) := by decide +kernel
theorem dX7_half_6 : decode cX7_half 6 = .ok (.invokestatic 152, 3) := by decide +kernel
theorem dX7_half_9 : decode cX7_half 9 = .ok (.ifCond .eq 31, 3) := by decide +kernel
theorem dX7_half_12 : decode cX7_half 12 = .ok (.iload_n 2, 1) := by decide +kernel
theorem dX7_half_13 : decode cX7_half 13 = .ok (.i2l, 1) := by decide +kernel
theorem dX7_half_14 : decode cX7_half 14 = .ok (.lconst 0, 1) := by decide +kernel
theorem dX7_half_15 : decode cX7_half 15 = .ok (.iconst 1, 1) := by decide +kernel
theorem dX7_half_16 : decode cX7_half 16 = .ok (.iload_n 1, 1) := by decide +kernel
theorem dX7_half_17 : decode cX7_half 17 = .ok (.ishl, 1) := by decide +kernel
theorem dX7_half_18 : decode cX7_half 18 = .ok (.iconst 1, 1) := by decide +kernel
theorem dX7_half_19 : decode cX7_half 19 = .ok (.isub, 1) := by decide +kernel
theorem dX7_half_20 : decode cX7_half 20 = .ok (.i2l, 1) := by decide +kernel
theorem dX7_half_21 : decode cX7_half 21 = .ok (.invokestatic 152, 3) := by decide +kernel
theorem dX7_half_24 : decode cX7_half 24 = .ok (.ifCond .eq 16, 3) := by decide +kernel
theorem dX7_half_27 : decode cX7_half 27 = .ok (.iload_n 3, 1) := by decide +kernel
theorem dX7_half_28 : decode cX7_half 28 = .ok (.i2l, 1) := by decide +kernel
theorem dX7_half_29 : decode cX7_half 29 = .ok (.ldc2_w 156, 3) := by decide +kernel
theorem dX7_half_32 : decode cX7_half 32 = .ok (.iload_n 1, 1) := by decide +kernel
theorem dX7_half_33 : decode cX7_half 33 = .ok (.i2l, 1) := by decide +kernel
theorem dX7_half_34 : decode cX7_half 34 = .ok (.invokestatic 152, 3) := by decide +kernel
theorem dX7_half_37 : decode cX7_half 37 = .ok (.ifCond .ne 6, 3) := by decide +kernel
theorem dX7_half_40 : decode cX7_half 40 = .ok (.bipush (-2), 2) := by decide +kernel
theorem dX7_half_42 : decode cX7_half 42 = .ok (.ireturn, 1) := by decide +kernel
theorem dX7_half_43 : decode cX7_half 43 = .ok (.aload_n 0, 1) := by decide +kernel
theorem dX7_half_44 : decode cX7_half 44 = .ok (.getfield 144, 3) := by decide +kernel
theorem dX7_half_47 : decode cX7_half 47 = .ok (.bipush 40, 2) := by decide +kernel
theorem dX7_half_49 : decode cX7_half 49 = .ok (.if_icmp .ne 6, 3) := by decide +kernel
theorem dX7_half_52 : decode cX7_half 52 = .ok (.bipush (-4), 2) := by decide +kernel
theorem dX7_half_54 : decode cX7_half 54 = .ok (.ireturn, 1) := by decide +kernel
theorem dX7_half_55 : decode cX7_half 55 = .ok (.aload_n 0, 1) := by decide +kernel
theorem dX7_half_56 : decode cX7_half 56 = .ok (.getfield 7, 3) := by decide +kernel
theorem dX7_half_59 : decode cX7_half 59 = .ok (.aload_n 0, 1) := by decide +kernel
theorem dX7_half_60 : decode cX7_half 60 = .ok (.getfield 144, 3) := by decide +kernel
theorem dX7_half_63 : decode cX7_half 63 = .ok (.iload_n 1, 1) := by decide +kernel
theorem dX7_half_64 : decode cX7_half 64 = .ok (.iastore, 1) := by decide +kernel
theorem dX7_half_65 : decode cX7_half 65 = .ok (.aload_n 0, 1) := by decide +kernel
theorem dX7_half_66 : decode cX7_half 66 = .ok (.getfield 13, 3) := by decide +kernel
theorem dX7_half_69 : decode cX7_half 69 = .ok (.aload_n 0, 1) := by decide +kernel
theorem dX7_half_70 : decode cX7_half 70 = .ok (.getfield 144, 3) := by decide +kernel
theorem dX7_half_73 : decode cX7_half 73 = .ok (.iload_n 2, 1) := by decide +kernel
theorem dX7_half_74 : decode cX7_half 74 = .ok (.iastore, 1) := by decide +kernel
theorem dX7_half_75 : decode cX7_half 75 = .ok (.aload_n 0, 1) := by decide +kernel
theorem dX7_half_76 : decode cX7_half 76 = .ok (.getfield 16, 3) := by decide +kernel
theorem dX7_half_79 : decode cX7_half 79 = .ok (.aload_n 0, 1) := by decide +kernel
theorem dX7_half_80 : decode cX7_half 80 = .ok (.getfield 144, 3) := by decide +kernel
theorem dX7_half_83 : decode cX7_half 83 = .ok (.iload_n 3, 1) := by decide +kernel
theorem dX7_half_84 : decode cX7_half 84 = .ok (.iastore, 1) := by decide +kernel
theorem dX7_half_85 : decode cX7_half 85 = .ok (.aload_n 0, 1) := by decide +kernel
theorem dX7_half_86 : decode cX7_half 86 = .ok (.dup, 1) := by decide +kernel
theorem dX7_half_87 : decode cX7_half 87 = .ok (.getfield 144, 3) := by decide +kernel
theorem dX7_half_90 : decode cX7_half 90 = .ok (.iconst 1, 1) := by decide +kernel
theorem dX7_half_91 : decode cX7_half 91 = .ok (.iadd, 1) := by decide +kernel
theorem dX7_half_92 : decode cX7_half 92 = .ok (.putfield 144, 3) := by decide +kernel
theorem dX7_half_95 : decode cX7_half 95 = .ok (.aload_n 0, 1) := by decide +kernel
theorem dX7_half_96 : decode cX7_half 96 = .ok (.getfield 144, 3) := by decide +kernel
theorem dX7_half_99 : decode cX7_half 99 = .ok (.iconst 1, 1) := by decide +kernel
theorem dX7_half_100 : decode cX7_half 100 = .ok (.isub, 1) := by decide +kernel
theorem dX7_half_101 : decode cX7_half 101 = .ok (.ireturn, 1) := by decide +kernel
theorem dX7_name_0 : decode cX7_name 0 = .ok (.iload_n 1, 1) := by decide +kernel
theorem dX7_name_1 : decode cX7_name 1 = .ok (.invokestatic 158, 3) := by decide +kernel
theorem dX7_name_4 : decode cX7_name 4 = .ok (.ifCond .ne 5, 3) := by decide +kernel
theorem dX7_name_7 : decode cX7_name 7 = .ok (.iconst (-1), 1) := by decide +kernel
theorem dX7_name_8 : decode cX7_name 8 = .ok (.ireturn, 1) := by decide +kernel
theorem dX7_name_9 : decode cX7_name 9 = .ok (.iload_n 2, 1) := by decide +kernel
theorem dX7_name_10 : decode cX7_name 10 = .ok (.i2l, 1) := by decide +kernel
theorem dX7_name_11 : decode cX7_name 11 = .ok (.lconst 1, 1) := by decide +kernel
theorem dX7_name_12 : decode cX7_name 12 = .ok (.ldc2_w 162, 3) := by decide +kernel
theorem dX7_name_15 : decode cX7_name 15 = .ok (.invokestatic 152, 3) := by decide +kernel
theorem dX7_name_18 : decode cX7_name 18 = .ok (.ifCond .eq 18, 3) := by decide +kernel
theorem dX7_name_21 : decode cX7_name 21 = .ok (.iload_n 3, 1) := by decide +kernel
theorem dX7_name_22 : decode cX7_name 22 = .ok (.i2l, 1) := by decide +kernel
theorem dX7_name_23 : decode cX7_name 23 = .ok (.lconst 0, 1) := by decide +kernel
theorem dX7_name_24 : decode cX7_name 24 = .ok (.iconst 1, 1) := by decide +kernel
theorem dX7_name_25 : decode cX7_name 25 = .ok (.iload_n 2, 1) := by decide +kernel
theorem dX7_name_26 : decode cX7_name 26 = .ok (.ishl, 1) := by decide +kernel
theorem dX7_name_27 : decode cX7_name 27 = .ok (.iconst 1, 1) := by decide +kernel
theorem dX7_name_28 : decode cX7_name 28 = .ok (.isub, 1) := by decide +kernel
theorem dX7_name_29 : decode cX7_name 29 = .ok (.i2l, 1) := by decide +kernel
theorem dX7_name_30 : decode cX7_name 30 = .ok (.invokestatic 152, 3) := by decide +kernel
theorem dX7_name_33 : decode cX7_name 33 = .ok (.ifCond .ne 6, 3) := by decide +kernel
theorem dX7_name_36 : decode cX7_name 36 = .ok (.bipush (-2), 2) := by decide +kernel
theorem dX7_name_38 : decode cX7_name 38 = .ok (.ireturn, 1) := by decide +kernel
theorem dX7_name_39 : decode cX7_name 39 = .ok (.aload_n 0, 1) := by decide +kernel
theorem dX7_name_40 : decode cX7_name 40 = .ok (.getfield 19, 3) := by decide +kernel
theorem dX7_name_43 : decode cX7_name 43 = .ok (.iload_n 1, 1) := by decide +kernel
theorem dX7_name_44 : decode cX7_name 44 = .ok (.iaload, 1) := by decide +kernel
theorem dX7_name_45 : decode cX7_name 45 = .ok (.istore 4, 2) := by decide +kernel
theorem dX7_name_47 : decode cX7_name 47 = .ok (.aload_n 0, 1) := by decide +kernel
theorem dX7_name_48 : decode cX7_name 48 = .ok (.getfield 19, 3) := by decide +kernel
theorem dX7_name_51 : decode cX7_name 51 = .ok (.iload_n 1, 1) := by decide +kernel
theorem dX7_name_52 : decode cX7_name 52 = .ok (.iload_n 2, 1) := by decide +kernel
theorem dX7_name_53 : decode cX7_name 53 = .ok (.iastore, 1) := by decide +kernel
theorem dX7_name_54 : decode cX7_name 54 = .ok (.aload_n 0, 1) := by decide +kernel
theorem dX7_name_55 : decode cX7_name 55 = .ok (.getfield 22, 3) := by decide +kernel
theorem dX7_name_58 : decode cX7_name 58 = .ok (.iload_n 1, 1) := by decide +kernel
theorem dX7_name_59 : decode cX7_name 59 = .ok (.iload_n 3, 1) := by decide +kernel
theorem dX7_name_60 : decode cX7_name 60 = .ok (.iastore, 1) := by decide +kernel
theorem dX7_name_61 : decode cX7_name 61 = .ok (.iload 4, 2) := by decide +kernel
theorem dX7_name_63 : decode cX7_name 63 = .ok (.ireturn, 1) := by decide +kernel
theorem dX7_line_0 : decode cX7_line 0 = .ok (.aload_n 0, 1) := by decide +kernel
theorem dX7_line_1 : decode cX7_line 1 = .ok (.iload_n 1, 1) := by decide +kernel
theorem dX7_line_2 : decode cX7_line 2 = .ok (.invokevirtual 164, 3) := by decide +kernel
theorem dX7_line_5 : decode cX7_line 5 = .ok (.ifCond .eq 31, 3) := by decide +kernel
theorem dX7_line_8 : decode cX7_line 8 = .ok (.aload_n 0, 1) := by decide +kernel
theorem dX7_line_9 : decode cX7_line 9 = .ok (.iload_n 2, 1) := by decide +kernel
theorem dX7_line_10 : decode cX7_line 10 = .ok (.invokevirtual 164, 3) := by decide +kernel
theorem dX7_line_13 : decode cX7_line 13 = .ok (.ifCond .eq 23, 3) := by decide +kernel
theorem dX7_line_16 : decode cX7_line 16 = .ok (.iload_n 3, 1) := by decide +kernel
theorem dX7_line_17 : decode cX7_line 17 = .ok (.i2l, 1) := by decide +kernel
theorem dX7_line_18 : decode cX7_line 18 = .ok (.lconst 0, 1) := by decide +kernel
theorem dX7_line_19 : decode cX7_line 19 = .ok (.ldc2_w 167, 3) := by decide +kernel
theorem dX7_line_22 : decode cX7_line 22 = .ok (.invokestatic 152, 3) := by decide +kernel
theorem dX7_line_25 : decode cX7_line 25 = .ok (.ifCond .eq 11, 3) := by decide +kernel
theorem dX7_line_28 : decode cX7_line 28 = .ok (.iload 4, 2) := by decide +kernel
theorem dX7_line_30 : decode cX7_line 30 = .ok (.invokestatic 158, 3) := by decide +kernel
theorem dX7_line_33 : decode cX7_line 33 = .ok (.ifCond .ne 5, 3) := by decide +kernel
theorem dX7_line_36 : decode cX7_line 36 = .ok (.iconst (-1), 1) := by decide +kernel
theorem dX7_line_37 : decode cX7_line 37 = .ok (.ireturn, 1) := by decide +kernel
theorem dX7_line_38 : decode cX7_line 38 = .ok (.iload 5, 2) := by decide +kernel
theorem dX7_line_40 : decode cX7_line 40 = .ok (.i2l, 1) := by decide +kernel
theorem dX7_line_41 : decode cX7_line 41 = .ok (.lconst 0, 1) := by decide +kernel
theorem dX7_line_42 : decode cX7_line 42 = .ok (.lconst 1, 1) := by decide +kernel
theorem dX7_line_43 : decode cX7_line 43 = .ok (.invokestatic 152, 3) := by decide +kernel
theorem dX7_line_46 : decode cX7_line 46 = .ok (.ifCond .ne 6, 3) := by decide +kernel
theorem dX7_line_49 : decode cX7_line 49 = .ok (.bipush (-2), 2) := by decide +kernel
theorem dX7_line_51 : decode cX7_line 51 = .ok (.ireturn, 1) := by decide +kernel
theorem dX7_line_52 : decode cX7_line 52 = .ok (.aload_n 0, 1) := by decide +kernel
theorem dX7_line_53 : decode cX7_line 53 = .ok (.getfield 147, 3) := by decide +kernel
theorem dX7_line_56 : decode cX7_line 56 = .ok (.bipush 40, 2) := by decide +kernel
theorem dX7_line_58 : decode cX7_line 58 = .ok (.if_icmp .ne 6, 3) := by decide +kernel
theorem dX7_line_61 : decode cX7_line 61 = .ok (.bipush (-4), 2) := by decide +kernel
theorem dX7_line_63 : decode cX7_line 63 = .ok (.ireturn, 1) := by decide +kernel
theorem dX7_line_64 : decode cX7_line 64 = .ok (.aload_n 0, 1) := by decide +kernel
theorem dX7_line_65 : decode cX7_line 65 = .ok (.getfield 25, 3) := by decide +kernel
theorem dX7_line_68 : decode cX7_line 68 = .ok (.aload_n 0, 1) := by decide +kernel
theorem dX7_line_69 : decode cX7_line 69 = .ok (.getfield 147, 3) := by decide +kernel
theorem dX7_line_72 : decode cX7_line 72 = .ok (.iload_n 1, 1) := by decide +kernel
theorem dX7_line_73 : decode cX7_line 73 = .ok (.iastore, 1) := by decide +kernel
theorem dX7_line_74 : decode cX7_line 74 = .ok (.aload_n 0, 1) := by decide +kernel
theorem dX7_line_75 : decode cX7_line 75 = .ok (.getfield 28, 3) := by decide +kernel
theorem dX7_line_78 : decode cX7_line 78 = .ok (.aload_n 0, 1) := by decide +kernel
theorem dX7_line_79 : decode cX7_line 79 = .ok (.getfield 147, 3) := by decide +kernel
theorem dX7_line_82 : decode cX7_line 82 = .ok (.iload_n 2, 1) := by decide +kernel
theorem dX7_line_83 : decode cX7_line 83 = .ok (.iastore, 1) := by decide +kernel
theorem dX7_line_84 : decode cX7_line 84 = .ok (.aload_n 0, 1) := by decide +kernel
theorem dX7_line_85 : decode cX7_line 85 = .ok (.getfield 31, 3) := by decide +kernel
theorem dX7_line_88 : decode cX7_line 88 = .ok (.aload_n 0, 1) := by decide +kernel
theorem dX7_line_89 : decode cX7_line 89 = .ok (.getfield 147, 3) := by decide +kernel
theorem dX7_line_92 : decode cX7_line 92 = .ok (.iload_n 3, 1) := by decide +kernel
theorem dX7_line_93 : decode cX7_line 93 = .ok (.iastore, 1) := by decide +kernel
theorem dX7_line_94 : decode cX7_line 94 = .ok (.aload_n 0, 1) := by decide +kernel
theorem dX7_line_95 : decode cX7_line 95 = .ok (.getfield 34, 3) := by decide +kernel
theorem dX7_line_98 : decode cX7_line 98 = .ok (.aload_n 0, 1) := by decide +kernel
theorem dX7_line_99 : decode cX7_line 99 = .ok (.getfield 147, 3) := by decide +kernel
theorem dX7_line_102 : decode cX7_line 102 = .ok (.iload 4, 2) := by decide +kernel
theorem dX7_line_104 : decode cX7_line 104 = .ok (.iastore, 1) := by decide +kernel
theorem dX7_line_105 : decode cX7_line 105 = .ok (.aload_n 0, 1) := by decide +kernel
theorem dX7_line_106 : decode cX7_line 106 = .ok (.getfield 37, 3) := by decide +kernel
theorem dX7_line_109 : decode cX7_line 109 = .ok (.aload_n 0, 1) := by decide +kernel
theorem dX7_line_110 : decode cX7_line 110 = .ok (.getfield 147, 3) := by decide +kernel
theorem dX7_line_113 : decode cX7_line 113 = .ok (.iload 5, 2) := by decide +kernel
theorem dX7_line_115 : decode cX7_line 115 = .ok (.iastore, 1) := by decide +kernel
theorem dX7_line_116 : decode cX7_line 116 = .ok (.aload_n 0, 1) := by decide +kernel
theorem dX7_line_117 : decode cX7_line 117 = .ok (.dup, 1) := by decide +kernel
theorem dX7_line_118 : decode cX7_line 118 = .ok (.getfield 147, 3) := by decide +kernel
theorem dX7_line_121 : decode cX7_line 121 = .ok (.iconst 1, 1) := by decide +kernel
theorem dX7_line_122 : decode cX7_line 122 = .ok (.iadd, 1) := by decide +kernel
theorem dX7_line_123 : decode cX7_line 123 = .ok (.putfield 147, 3) := by decide +kernel
theorem dX7_line_126 : decode cX7_line 126 = .ok (.aload_n 0, 1) := by decide +kernel
theorem dX7_line_127 : decode cX7_line 127 = .ok (.getfield 147, 3) := by decide +kernel
theorem dX7_line_130 : decode cX7_line 130 = .ok (.iconst 1, 1) := by decide +kernel
theorem dX7_line_131 : decode cX7_line 131 = .ok (.isub, 1) := by decide +kernel
theorem dX7_line_132 : decode cX7_line 132 = .ok (.ireturn, 1) := by decide +kernel
theorem dX7_metre_0 : decode cX7_metre 0 = .ok (.iload_n 1, 1) := by decide +kernel
theorem dX7_metre_1 : decode cX7_metre 1 = .ok (.i2l, 1) := by decide +kernel
theorem dX7_metre_2 : decode cX7_metre 2 = .ok (.lconst 0, 1) := by decide +kernel
theorem dX7_metre_3 : decode cX7_metre 3 = .ok (.ldc2_w 169, 3) := by decide +kernel
theorem dX7_metre_6 : decode cX7_metre 6 = .ok (.invokestatic 152, 3) := by decide +kernel
theorem dX7_metre_9 : decode cX7_metre 9 = .ok (.ifCond .ne 5, 3) := by decide +kernel
theorem dX7_metre_12 : decode cX7_metre 12 = .ok (.iconst (-1), 1) := by decide +kernel
theorem dX7_metre_13 : decode cX7_metre 13 = .ok (.ireturn, 1) := by decide +kernel
theorem dX7_metre_14 : decode cX7_metre 14 = .ok (.iload_n 1, 1) := by decide +kernel
theorem dX7_metre_15 : decode cX7_metre 15 = .ok (.iconst 2, 1) := by decide +kernel
theorem dX7_metre_16 : decode cX7_metre 16 = .ok (.if_icmp .ge 18, 3) := by decide +kernel
theorem dX7_metre_19 : decode cX7_metre 19 = .ok (.iload_n 2, 1) := by decide +kernel
theorem dX7_metre_20 : decode cX7_metre 20 = .ok (.i2l, 1) := by decide +kernel
theorem dX7_metre_21 : decode cX7_metre 21 = .ok (.lconst 1, 1) := by decide +kernel
theorem dX7_metre_22 : decode cX7_metre 22 = .ok (.ldc2_w 171, 3) := by decide +kernel
theorem dX7_metre_25 : decode cX7_metre 25 = .ok (.invokestatic 152, 3) := by decide +kernel
theorem dX7_metre_28 : decode cX7_metre 28 = .ok (.ifCond .ne 21, 3) := by decide +kernel
theorem dX7_metre_31 : decode cX7_metre 31 = .ok (.goto 15, 3) := by decide +kernel
theorem dX7_metre_34 : decode cX7_metre 34 = .ok (.iload_n 2, 1) := by decide +kernel
theorem dX7_metre_35 : decode cX7_metre 35 = .ok (.i2l, 1) := by decide +kernel
theorem dX7_metre_36 : decode cX7_metre 36 = .ok (.lconst 0, 1) := by decide +kernel
theorem dX7_metre_37 : decode cX7_metre 37 = .ok (.ldc2_w 173, 3) := by decide +kernel
theorem dX7_metre_40 : decode cX7_metre 40 = .ok (.invokestatic 152, 3) := by decide +kernel
theorem dX7_metre_43 : decode cX7_metre 43 = .ok (.ifCond .ne 6, 3) := by decide +kernel
theorem dX7_metre_46 : decode cX7_metre 46 = .ok (.bipush (-2), 2) := by decide +kernel
theorem dX7_metre_48 : decode cX7_metre 48 = .ok (.ireturn, 1) := by decide +kernel
theorem dX7_metre_49 : decode cX7_metre 49 = .ok (.aload_n 0, 1) := by decide +kernel
theorem dX7_metre_50 : decode cX7_metre 50 = .ok (.getfield 40, 3) := by decide +kernel
theorem dX7_metre_53 : decode cX7_metre 53 = .ok (.iload_n 1, 1) := by decide +kernel
theorem dX7_metre_54 : decode cX7_metre 54 = .ok (.iaload, 1) := by decide +kernel
theorem dX7_metre_55 : decode cX7_metre 55 = .ok (.istore_n 3, 1) := by decide +kernel
theorem dX7_metre_56 : decode cX7_metre 56 = .ok (.aload_n 0, 1) := by decide +kernel
theorem dX7_metre_57 : decode cX7_metre 57 = .ok (.getfield 40, 3) := by decide +kernel
theorem dX7_metre_60 : decode cX7_metre 60 = .ok (.iload_n 1, 1) := by decide +kernel
theorem dX7_metre_61 : decode cX7_metre 61 = .ok (.iload_n 2, 1) := by decide +kernel
theorem dX7_metre_62 : decode cX7_metre 62 = .ok (.iastore, 1) := by decide +kernel
theorem dX7_metre_63 : decode cX7_metre 63 = .ok (.iload_n 3, 1) := by decide +kernel
theorem dX7_metre_64 : decode cX7_metre 64 = .ok (.ireturn, 1) := by decide +kernel
theorem dX7_longOf_0 : decode cX7_longOf 0 = .ok (.aload_n 0, 1) := by decide +kernel
theorem dX7_longOf_1 : decode cX7_longOf 1 = .ok (.getfield 7, 3) := by decide +kernel
theorem dX7_longOf_4 : decode cX7_longOf 4 = .ok (.iload_n 1, 1) := by decide +kernel
theorem dX7_longOf_5 : decode cX7_longOf 5 = .ok (.iaload, 1) := by decide +kernel
theorem dX7_longOf_6 : decode cX7_longOf 6 = .ok (.aload_n 0, 1) := by decide +kernel
theorem dX7_longOf_7 : decode cX7_longOf 7 = .ok (.getfield 16, 3) := by decide +kernel
theorem dX7_longOf_10 : decode cX7_longOf 10 = .ok (.iload_n 1, 1) := by decide +kernel
theorem dX7_longOf_11 : decode cX7_longOf 11 = .ok (.iaload, 1) := by decide +kernel
theorem dX7_longOf_12 : decode cX7_longOf 12 = .ok (.ifCond .ge 7, 3) := by decide +kernel
theorem dX7_longOf_15 : decode cX7_longOf 15 = .ok (.iconst 0, 1) := by decide +kernel
theorem dX7_longOf_16 : decode cX7_longOf 16 = .ok (.goto 9, 3) := by decide +kernel
theorem dX7_longOf_19 : decode cX7_longOf 19 = .ok (.aload_n 0, 1) := by decide +kernel
theorem dX7_longOf_20 : decode cX7_longOf 20 = .ok (.getfield 19, 3) := by decide +kernel
theorem dX7_longOf_23 : decode cX7_longOf 23 = .ok (.iload_n 2, 1) := by decide +kernel
theorem dX7_longOf_24 : decode cX7_longOf 24 = .ok (.iaload, 1) := by decide +kernel
theorem dX7_longOf_25 : decode cX7_longOf 25 = .ok (.iadd, 1) := by decide +kernel
theorem dX7_longOf_26 : decode cX7_longOf 26 = .ok (.ireturn, 1) := by decide +kernel
theorem dX7_heavyOf_0 : decode cX7_heavyOf 0 = .ok (.aload_n 0, 1) := by decide +kernel
theorem dX7_heavyOf_1 : decode cX7_heavyOf 1 = .ok (.getfield 16, 3) := by decide +kernel
theorem dX7_heavyOf_4 : decode cX7_heavyOf 4 = .ok (.iload_n 1, 1) := by decide +kernel
theorem dX7_heavyOf_5 : decode cX7_heavyOf 5 = .ok (.iaload, 1) := by decide +kernel
theorem dX7_heavyOf_6 : decode cX7_heavyOf 6 = .ok (.istore_n 3, 1) := by decide +kernel
theorem dX7_heavyOf_7 : decode cX7_heavyOf 7 = .ok (.iload_n 3, 1) := by decide +kernel
theorem dX7_heavyOf_8 : decode cX7_heavyOf 8 = .ok (.ifCond .ge 10, 3) := by decide +kernel
theorem dX7_heavyOf_11 : decode cX7_heavyOf 11 = .ok (.aload_n 0, 1) := by decide +kernel
theorem dX7_heavyOf_12 : decode cX7_heavyOf 12 = .ok (.getfield 13, 3) := by decide +kernel
theorem dX7_heavyOf_15 : decode cX7_heavyOf 15 = .ok (.iload_n 1, 1) := by decide +kernel
theorem dX7_heavyOf_16 : decode cX7_heavyOf 16 = .ok (.iaload, 1) := by decide +kernel
theorem dX7_heavyOf_17 : decode cX7_heavyOf 17 = .ok (.ireturn, 1) := by decide +kernel
theorem dX7_heavyOf_18 : decode cX7_heavyOf 18 = .ok (.aload_n 0, 1) := by decide +kernel
theorem dX7_heavyOf_19 : decode cX7_heavyOf 19 = .ok (.getfield 13, 3) := by decide +kernel
theorem dX7_heavyOf_22 : decode cX7_heavyOf 22 = .ok (.iload_n 1, 1) := by decide +kernel
theorem dX7_heavyOf_23 : decode cX7_heavyOf 23 = .ok (.iaload, 1) := by decide +kernel
theorem dX7_heavyOf_24 : decode cX7_heavyOf 24 = .ok (.iconst 1, 1) := by decide +kernel
theorem dX7_heavyOf_25 : decode cX7_heavyOf 25 = .ok (.iload_n 3, 1) := by decide +kernel
theorem dX7_heavyOf_26 : decode cX7_heavyOf 26 = .ok (.ishl, 1) := by decide +kernel
theorem dX7_heavyOf_27 : decode cX7_heavyOf 27 = .ok (.iconst 1, 1) := by decide +kernel
theorem dX7_heavyOf_28 : decode cX7_heavyOf 28 = .ok (.isub, 1) := by decide +kernel
theorem dX7_heavyOf_29 : decode cX7_heavyOf 29 = .ok (.iand, 1) := by decide +kernel
theorem dX7_heavyOf_30 : decode cX7_heavyOf 30 = .ok (.istore 4, 2) := by decide +kernel
theorem dX7_heavyOf_32 : decode cX7_heavyOf 32 = .ok (.iload 4, 2) := by decide +kernel
theorem dX7_heavyOf_34 : decode cX7_heavyOf 34 = .ok (.aload_n 0, 1) := by decide +kernel
theorem dX7_heavyOf_35 : decode cX7_heavyOf 35 = .ok (.getfield 22, 3) := by decide +kernel
theorem dX7_heavyOf_38 : decode cX7_heavyOf 38 = .ok (.iload_n 2, 1) := by decide +kernel
theorem dX7_heavyOf_39 : decode cX7_heavyOf 39 = .ok (.iaload, 1) := by decide +kernel
theorem dX7_heavyOf_40 : decode cX7_heavyOf 40 = .ok (.iload_n 3, 1) := by decide +kernel
theorem dX7_heavyOf_41 : decode cX7_heavyOf 41 = .ok (.ishl, 1) := by decide +kernel
theorem dX7_heavyOf_42 : decode cX7_heavyOf 42 = .ok (.ior, 1) := by decide +kernel
theorem dX7_heavyOf_43 : decode cX7_heavyOf 43 = .ok (.aload_n 0, 1) := by decide +kernel
theorem dX7_heavyOf_44 : decode cX7_heavyOf 44 = .ok (.getfield 13, 3) := by decide +kernel
theorem dX7_heavyOf_47 : decode cX7_heavyOf 47 = .ok (.iload_n 1, 1) := by decide +kernel
theorem dX7_heavyOf_48 : decode cX7_heavyOf 48 = .ok (.iaload, 1) := by decide +kernel
theorem dX7_heavyOf_49 : decode cX7_heavyOf 49 = .ok (.iload_n 3, 1) := by decide +kernel
theorem dX7_heavyOf_50 : decode cX7_heavyOf 50 = .ok (.ishr, 1) := by decide +kernel
theorem dX7_heavyOf_51 : decode cX7_heavyOf 51 = .ok (.iload_n 3, 1) := by decide +kernel
theorem dX7_heavyOf_52 : decode cX7_heavyOf 52 = .ok (.aload_n 0, 1) := by decide +kernel
theorem dX7_heavyOf_53 : decode cX7_heavyOf 53 = .ok (.getfield 19, 3) := by decide +kernel
theorem dX7_heavyOf_56 : decode cX7_heavyOf 56 = .ok (.iload_n 2, 1) := by decide +kernel
theorem dX7_heavyOf_57 : decode cX7_heavyOf 57 = .ok (.iaload, 1) := by decide +kernel
theorem dX7_heavyOf_58 : decode cX7_heavyOf 58 = .ok (.iadd, 1) := by decide +kernel
theorem dX7_heavyOf_59 : decode cX7_heavyOf 59 = .ok (.ishl, 1) := by decide +kernel
theorem dX7_heavyOf_60 : decode cX7_heavyOf 60 = .ok (.ior, 1) := by decide +kernel
theorem dX7_heavyOf_61 : decode cX7_heavyOf 61 = .ok (.ireturn, 1) := by decide +kernel
theorem dX7_heavyAll_0 : decode cX7_heavyAll 0 = .ok (.aload_n 0, 1) := by decide +kernel
theorem dX7_heavyAll_1 : decode cX7_heavyAll 1 = .ok (.iload_n 1, 1) := by decide +kernel
theorem dX7_heavyAll_2 : decode cX7_heavyAll 2 = .ok (.iload_n 3, 1) := by decide +kernel
theorem dX7_heavyAll_3 : decode cX7_heavyAll 3 = .ok (.invokevirtual 175, 3) := by decide +kernel
theorem dX7_heavyAll_6 : decode cX7_heavyAll 6 = .ok (.aload_n 0, 1) := by decide +kernel
theorem dX7_heavyAll_7 : decode cX7_heavyAll 7 = .ok (.iload_n 2, 1) := by decide +kernel
theorem dX7_heavyAll_8 : decode cX7_heavyAll 8 = .ok (.iload_n 3, 1) := by decide +kernel
theorem dX7_heavyAll_9 : decode cX7_heavyAll 9 = .ok (.invokevirtual 175, 3) := by decide +kernel
theorem dX7_heavyAll_12 : decode cX7_heavyAll 12 = .ok (.aload_n 0, 1) := by decide +kernel
theorem dX7_heavyAll_13 : decode cX7_heavyAll 13 = .ok (.iload_n 1, 1) := by decide +kernel
theorem dX7_heavyAll_14 : decode cX7_heavyAll 14 = .ok (.iload_n 3, 1) := by decide +kernel
theorem dX7_heavyAll_15 : decode cX7_heavyAll 15 = .ok (.invokevirtual 179, 3) := by decide +kernel
theorem dX7_heavyAll_18 : decode cX7_heavyAll 18 = .ok (.ishl, 1) := by decide +kernel
theorem dX7_heavyAll_19 : decode cX7_heavyAll 19 = .ok (.ior, 1) := by decide +kernel
theorem dX7_heavyAll_20 : decode cX7_heavyAll 20 = .ok (.ireturn, 1) := by decide +kernel
theorem dX7_scans_0 : decode cX7_scans 0 = .ok (.aload_n 0, 1) := by decide +kernel
theorem dX7_scans_1 : decode cX7_scans 1 = .ok (.iload_n 1, 1) := by decide +kernel
theorem dX7_scans_2 : decode cX7_scans 2 = .ok (.iload_n 3, 1) := by decide +kernel
theorem dX7_scans_3 : decode cX7_scans 3 = .ok (.invokevirtual 179, 3) := by decide +kernel
theorem dX7_scans_6 : decode cX7_scans 6 = .ok (.aload_n 0, 1) := by decide +kernel
theorem dX7_scans_7 : decode cX7_scans 7 = .ok (.getfield 40, 3) := by decide +kernel
theorem dX7_scans_10 : decode cX7_scans 10 = .ok (.iconst 0, 1) := by decide +kernel
theorem dX7_scans_11 : decode cX7_scans 11 = .ok (.iaload, 1) := by decide +kernel
theorem dX7_scans_12 : decode cX7_scans 12 = .ok (.if_icmp .ne 41, 3) := by decide +kernel
theorem dX7_scans_15 : decode cX7_scans 15 = .ok (.aload_n 0, 1) := by decide +kernel
theorem dX7_scans_16 : decode cX7_scans 16 = .ok (.iload_n 2, 1) := by decide +kernel
theorem dX7_scans_17 : decode cX7_scans 17 = .ok (.iload_n 3, 1) := by decide +kernel
theorem dX7_scans_18 : decode cX7_scans 18 = .ok (.invokevirtual 179, 3) := by decide +kernel
theorem dX7_scans_21 : decode cX7_scans 21 = .ok (.aload_n 0, 1) := by decide +kernel
theorem dX7_scans_22 : decode cX7_scans 22 = .ok (.getfield 40, 3) := by decide +kernel
theorem dX7_scans_25 : decode cX7_scans 25 = .ok (.iconst 1, 1) := by decide +kernel
theorem dX7_scans_26 : decode cX7_scans 26 = .ok (.iaload, 1) := by decide +kernel
theorem dX7_scans_27 : decode cX7_scans 27 = .ok (.if_icmp .ne 26, 3) := by decide +kernel
theorem dX7_scans_30 : decode cX7_scans 30 = .ok (.aload_n 0, 1) := by decide +kernel
theorem dX7_scans_31 : decode cX7_scans 31 = .ok (.getfield 40, 3) := by decide +kernel
theorem dX7_scans_34 : decode cX7_scans 34 = .ok (.iconst 2, 1) := by decide +kernel
theorem dX7_scans_35 : decode cX7_scans 35 = .ok (.iaload, 1) := by decide +kernel
theorem dX7_scans_36 : decode cX7_scans 36 = .ok (.aload_n 0, 1) := by decide +kernel
theorem dX7_scans_37 : decode cX7_scans 37 = .ok (.iload_n 1, 1) := by decide +kernel
theorem dX7_scans_38 : decode cX7_scans 38 = .ok (.iload_n 2, 1) := by decide +kernel
theorem dX7_scans_39 : decode cX7_scans 39 = .ok (.iload_n 3, 1) := by decide +kernel
theorem dX7_scans_40 : decode cX7_scans 40 = .ok (.invokevirtual 182, 3) := by decide +kernel
theorem dX7_scans_43 : decode cX7_scans 43 = .ok (.iconst (-1), 1) := by decide +kernel
theorem dX7_scans_44 : decode cX7_scans 44 = .ok (.ixor, 1) := by decide +kernel
theorem dX7_scans_45 : decode cX7_scans 45 = .ok (.iand, 1) := by decide +kernel
theorem dX7_scans_46 : decode cX7_scans 46 = .ok (.ifCond .ne 7, 3) := by decide +kernel
theorem dX7_scans_49 : decode cX7_scans 49 = .ok (.iconst 1, 1) := by decide +kernel
theorem dX7_scans_50 : decode cX7_scans 50 = .ok (.goto 4, 3) := by decide +kernel
theorem dX7_scans_53 : decode cX7_scans 53 = .ok (.iconst 0, 1) := by decide +kernel
theorem dX7_scans_54 : decode cX7_scans 54 = .ok (.ireturn, 1) := by decide +kernel
theorem dX7_told_0 : decode cX7_told 0 = .ok (.aload_n 0, 1) := by decide +kernel
theorem dX7_told_1 : decode cX7_told 1 = .ok (.iload_n 1, 1) := by decide +kernel
theorem dX7_told_2 : decode cX7_told 2 = .ok (.invokevirtual 186, 3) := by decide +kernel
theorem dX7_told_5 : decode cX7_told 5 = .ok (.ifCond .ne 5, 3) := by decide +kernel
theorem dX7_told_8 : decode cX7_told 8 = .ok (.iconst (-1), 1) := by decide +kernel
theorem dX7_told_9 : decode cX7_told 9 = .ok (.ireturn, 1) := by decide +kernel
theorem dX7_told_10 : decode cX7_told 10 = .ok (.iload_n 2, 1) := by decide +kernel
theorem dX7_told_11 : decode cX7_told 11 = .ok (.tableswitch 168 0 7 #[45, 52, 59, 66, 73, 80, 111, 145], 45) := by decide +kernel
theorem dX7_told_56 : decode cX7_told 56 = .ok (.aload_n 0, 1) := by decide +kernel
theorem dX7_told_57 : decode cX7_told 57 = .ok (.getfield 25, 3) := by decide +kernel
theorem dX7_told_60 : decode cX7_told 60 = .ok (.iload_n 1, 1) := by decide +kernel
theorem dX7_told_61 : decode cX7_told 61 = .ok (.iaload, 1) := by decide +kernel
theorem dX7_told_62 : decode cX7_told 62 = .ok (.ireturn, 1) := by decide +kernel
theorem dX7_told_63 : decode cX7_told 63 = .ok (.aload_n 0, 1) := by decide +kernel
theorem dX7_told_64 : decode cX7_told 64 = .ok (.getfield 28, 3) := by decide +kernel
theorem dX7_told_67 : decode cX7_told 67 = .ok (.iload_n 1, 1) := by decide +kernel
theorem dX7_told_68 : decode cX7_told 68 = .ok (.iaload, 1) := by decide +kernel
theorem dX7_told_69 : decode cX7_told 69 = .ok (.ireturn, 1) := by decide +kernel
theorem dX7_told_70 : decode cX7_told 70 = .ok (.aload_n 0, 1) := by decide +kernel
theorem dX7_told_71 : decode cX7_told 71 = .ok (.getfield 31, 3) := by decide +kernel
theorem dX7_told_74 : decode cX7_told 74 = .ok (.iload_n 1, 1) := by decide +kernel
theorem dX7_told_75 : decode cX7_told 75 = .ok (.iaload, 1) := by decide +kernel
theorem dX7_told_76 : decode cX7_told 76 = .ok (.ireturn, 1) := by decide +kernel
theorem dX7_told_77 : decode cX7_told 77 = .ok (.aload_n 0, 1) := by decide +kernel
theorem dX7_told_78 : decode cX7_told 78 = .ok (.getfield 34, 3) := by decide +kernel
theorem dX7_told_81 : decode cX7_told 81 = .ok (.iload_n 1, 1) := by decide +kernel
theorem dX7_told_82 : decode cX7_told 82 = .ok (.iaload, 1) := by decide +kernel
theorem dX7_told_83 : decode cX7_told 83 = .ok (.ireturn, 1) := by decide +kernel
theorem dX7_told_84 : decode cX7_told 84 = .ok (.aload_n 0, 1) := by decide +kernel
theorem dX7_told_85 : decode cX7_told 85 = .ok (.getfield 37, 3) := by decide +kernel
theorem dX7_told_88 : decode cX7_told 88 = .ok (.iload_n 1, 1) := by decide +kernel
theorem dX7_told_89 : decode cX7_told 89 = .ok (.iaload, 1) := by decide +kernel
theorem dX7_told_90 : decode cX7_told 90 = .ok (.ireturn, 1) := by decide +kernel
theorem dX7_told_91 : decode cX7_told 91 = .ok (.aload_n 0, 1) := by decide +kernel
theorem dX7_told_92 : decode cX7_told 92 = .ok (.aload_n 0, 1) := by decide +kernel
theorem dX7_told_93 : decode cX7_told 93 = .ok (.getfield 25, 3) := by decide +kernel
theorem dX7_told_96 : decode cX7_told 96 = .ok (.iload_n 1, 1) := by decide +kernel
theorem dX7_told_97 : decode cX7_told 97 = .ok (.iaload, 1) := by decide +kernel
theorem dX7_told_98 : decode cX7_told 98 = .ok (.aload_n 0, 1) := by decide +kernel
theorem dX7_told_99 : decode cX7_told 99 = .ok (.getfield 28, 3) := by decide +kernel
theorem dX7_told_102 : decode cX7_told 102 = .ok (.iload_n 1, 1) := by decide +kernel
theorem dX7_told_103 : decode cX7_told 103 = .ok (.iaload, 1) := by decide +kernel
theorem dX7_told_104 : decode cX7_told 104 = .ok (.aload_n 0, 1) := by decide +kernel
theorem dX7_told_105 : decode cX7_told 105 = .ok (.getfield 34, 3) := by decide +kernel
theorem dX7_told_108 : decode cX7_told 108 = .ok (.iload_n 1, 1) := by decide +kernel
theorem dX7_told_109 : decode cX7_told 109 = .ok (.iaload, 1) := by decide +kernel
theorem dX7_told_110 : decode cX7_told 110 = .ok (.invokevirtual 189, 3) := by decide +kernel
theorem dX7_told_113 : decode cX7_told 113 = .ok (.ifCond .eq 7, 3) := by decide +kernel
theorem dX7_told_116 : decode cX7_told 116 = .ok (.iconst 1, 1) := by decide +kernel
theorem dX7_told_117 : decode cX7_told 117 = .ok (.goto 4, 3) := by decide +kernel
theorem dX7_told_120 : decode cX7_told 120 = .ok (.iconst 0, 1) := by decide +kernel
theorem dX7_told_121 : decode cX7_told 121 = .ok (.ireturn, 1) := by decide +kernel
theorem dX7_told_122 : decode cX7_told 122 = .ok (.aload_n 0, 1) := by decide +kernel
theorem dX7_told_123 : decode cX7_told 123 = .ok (.aload_n 0, 1) := by decide +kernel
theorem dX7_told_124 : decode cX7_told 124 = .ok (.getfield 25, 3) := by decide +kernel
theorem dX7_told_127 : decode cX7_told 127 = .ok (.iload_n 1, 1) := by decide +kernel
theorem dX7_told_128 : decode cX7_told 128 = .ok (.iaload, 1) := by decide +kernel
theorem dX7_told_129 : decode cX7_told 129 = .ok (.aload_n 0, 1) := by decide +kernel
theorem dX7_told_130 : decode cX7_told 130 = .ok (.getfield 34, 3) := by decide +kernel
theorem dX7_told_133 : decode cX7_told 133 = .ok (.iload_n 1, 1) := by decide +kernel
theorem dX7_told_134 : decode cX7_told 134 = .ok (.iaload, 1) := by decide +kernel
theorem dX7_told_135 : decode cX7_told 135 = .ok (.invokevirtual 179, 3) := by decide +kernel
theorem dX7_told_138 : decode cX7_told 138 = .ok (.aload_n 0, 1) := by decide +kernel
theorem dX7_told_139 : decode cX7_told 139 = .ok (.aload_n 0, 1) := by decide +kernel
theorem dX7_told_140 : decode cX7_told 140 = .ok (.getfield 28, 3) := by decide +kernel
theorem dX7_told_143 : decode cX7_told 143 = .ok (.iload_n 1, 1) := by decide +kernel
theorem dX7_told_144 : decode cX7_told 144 = .ok (.iaload, 1) := by decide +kernel
theorem dX7_told_145 : decode cX7_told 145 = .ok (.aload_n 0, 1) := by decide +kernel
theorem dX7_told_146 : decode cX7_told 146 = .ok (.getfield 34, 3) := by decide +kernel
theorem dX7_told_149 : decode cX7_told 149 = .ok (.iload_n 1, 1) := by decide +kernel
theorem dX7_told_150 : decode cX7_told 150 = .ok (.iaload, 1) := by decide +kernel
theorem dX7_told_151 : decode cX7_told 151 = .ok (.invokevirtual 179, 3) := by decide +kernel
theorem dX7_told_154 : decode cX7_told 154 = .ok (.iadd, 1) := by decide +kernel
theorem dX7_told_155 : decode cX7_told 155 = .ok (.ireturn, 1) := by decide +kernel
theorem dX7_told_156 : decode cX7_told 156 = .ok (.aload_n 0, 1) := by decide +kernel
theorem dX7_told_157 : decode cX7_told 157 = .ok (.aload_n 0, 1) := by decide +kernel
theorem dX7_told_158 : decode cX7_told 158 = .ok (.getfield 25, 3) := by decide +kernel
theorem dX7_told_161 : decode cX7_told 161 = .ok (.iload_n 1, 1) := by decide +kernel
theorem dX7_told_162 : decode cX7_told 162 = .ok (.iaload, 1) := by decide +kernel
theorem dX7_told_163 : decode cX7_told 163 = .ok (.aload_n 0, 1) := by decide +kernel
theorem dX7_told_164 : decode cX7_told 164 = .ok (.getfield 28, 3) := by decide +kernel
theorem dX7_told_167 : decode cX7_told 167 = .ok (.iload_n 1, 1) := by decide +kernel
theorem dX7_told_168 : decode cX7_told 168 = .ok (.iaload, 1) := by decide +kernel
theorem dX7_told_169 : decode cX7_told 169 = .ok (.aload_n 0, 1) := by decide +kernel
theorem dX7_told_170 : decode cX7_told 170 = .ok (.getfield 34, 3) := by decide +kernel
theorem dX7_told_173 : decode cX7_told 173 = .ok (.iload_n 1, 1) := by decide +kernel
theorem dX7_told_174 : decode cX7_told 174 = .ok (.iaload, 1) := by decide +kernel
theorem dX7_told_175 : decode cX7_told 175 = .ok (.invokevirtual 182, 3) := by decide +kernel
theorem dX7_told_178 : decode cX7_told 178 = .ok (.ireturn, 1) := by decide +kernel
theorem dX7_told_179 : decode cX7_told 179 = .ok (.iconst (-1), 1) := by decide +kernel
theorem dX7_told_180 : decode cX7_told 180 = .ok (.ireturn, 1) := by decide +kernel
theorem dX7_mends_0 : decode cX7_mends 0 = .ok (.iconst 3, 1) := by decide +kernel
theorem dX7_mends_1 : decode cX7_mends 1 = .ok (.istore_n 2, 1) := by decide +kernel
theorem dX7_mends_2 : decode cX7_mends 2 = .ok (.iconst 0, 1) := by decide +kernel
theorem dX7_mends_3 : decode cX7_mends 3 = .ok (.istore_n 3, 1) := by decide +kernel
theorem dX7_mends_4 : decode cX7_mends 4 = .ok (.iconst 0, 1) := by decide +kernel
theorem dX7_mends_5 : decode cX7_mends 5 = .ok (.istore 4, 2) := by decide +kernel
theorem dX7_mends_7 : decode cX7_mends 7 = .ok (.iconst 0, 1) := by decide +kernel
theorem dX7_mends_8 : decode cX7_mends 8 = .ok (.istore 5, 2) := by decide +kernel
theorem dX7_mends_10 : decode cX7_mends 10 = .ok (.iload 5, 2) := by decide +kernel
theorem dX7_mends_12 : decode cX7_mends 12 = .ok (.aload_n 0, 1) := by decide +kernel
theorem dX7_mends_13 : decode cX7_mends 13 = .ok (.getfield 144, 3) := by decide +kernel
theorem dX7_mends_16 : decode cX7_mends 16 = .ok (.if_icmp .ge 98, 3) := by decide +kernel
theorem dX7_mends_19 : decode cX7_mends 19 = .ok (.iconst 0, 1) := by decide +kernel
theorem dX7_mends_20 : decode cX7_mends 20 = .ok (.istore 6, 2) := by decide +kernel
theorem dX7_mends_22 : decode cX7_mends 22 = .ok (.iload 6, 2) := by decide +kernel
theorem dX7_mends_24 : decode cX7_mends 24 = .ok (.aload_n 0, 1) := by decide +kernel
theorem dX7_mends_25 : decode cX7_mends 25 = .ok (.getfield 144, 3) := by decide +kernel
theorem dX7_mends_28 : decode cX7_mends 28 = .ok (.if_icmp .ge 80, 3) := by decide +kernel
theorem dX7_mends_31 : decode cX7_mends 31 = .ok (.iload 5, 2) := by decide +kernel
theorem dX7_mends_33 : decode cX7_mends 33 = .ok (.aload_n 0, 1) := by decide +kernel
theorem dX7_mends_34 : decode cX7_mends 34 = .ok (.getfield 25, 3) := by decide +kernel
theorem dX7_mends_37 : decode cX7_mends 37 = .ok (.iload_n 1, 1) := by decide +kernel
theorem dX7_mends_38 : decode cX7_mends 38 = .ok (.iaload, 1) := by decide +kernel
theorem dX7_mends_39 : decode cX7_mends 39 = .ok (.if_icmp .ne 7, 3) := by decide +kernel
theorem dX7_mends_42 : decode cX7_mends 42 = .ok (.iconst 0, 1) := by decide +kernel
theorem dX7_mends_43 : decode cX7_mends 43 = .ok (.goto 4, 3) := by decide +kernel
theorem dX7_mends_46 : decode cX7_mends 46 = .ok (.iconst 1, 1) := by decide +kernel
theorem dX7_mends_47 : decode cX7_mends 47 = .ok (.iload 6, 2) := by decide +kernel
theorem dX7_mends_49 : decode cX7_mends 49 = .ok (.aload_n 0, 1) := by decide +kernel
theorem dX7_mends_50 : decode cX7_mends 50 = .ok (.getfield 28, 3) := by decide +kernel
theorem dX7_mends_53 : decode cX7_mends 53 = .ok (.iload_n 1, 1) := by decide +kernel
theorem dX7_mends_54 : decode cX7_mends 54 = .ok (.iaload, 1) := by decide +kernel
theorem dX7_mends_55 : decode cX7_mends 55 = .ok (.if_icmp .ne 7, 3) := by decide +kernel
theorem dX7_mends_58 : decode cX7_mends 58 = .ok (.iconst 0, 1) := by decide +kernel
theorem dX7_mends_59 : decode cX7_mends 59 = .ok (.goto 4, 3) := by decide +kernel
theorem dX7_mends_62 : decode cX7_mends 62 = .ok (.iconst 1, 1) := by decide +kernel
theorem dX7_mends_63 : decode cX7_mends 63 = .ok (.iadd, 1) := by decide +kernel
theorem dX7_mends_64 : decode cX7_mends 64 = .ok (.istore 7, 2) := by decide +kernel
theorem dX7_mends_66 : decode cX7_mends 66 = .ok (.iload 7, 2) := by decide +kernel
theorem dX7_mends_68 : decode cX7_mends 68 = .ok (.iload_n 2, 1) := by decide +kernel
theorem dX7_mends_69 : decode cX7_mends 69 = .ok (.if_icmp .ge 33, 3) := by decide +kernel
theorem dX7_mends_72 : decode cX7_mends 72 = .ok (.aload_n 0, 1) := by decide +kernel
theorem dX7_mends_73 : decode cX7_mends 73 = .ok (.iload 5, 2) := by decide +kernel
theorem dX7_mends_75 : decode cX7_mends 75 = .ok (.iload 6, 2) := by decide +kernel
theorem dX7_mends_77 : decode cX7_mends 77 = .ok (.aload_n 0, 1) := by decide +kernel
theorem dX7_mends_78 : decode cX7_mends 78 = .ok (.getfield 34, 3) := by decide +kernel
theorem dX7_mends_81 : decode cX7_mends 81 = .ok (.iload_n 1, 1) := by decide +kernel
theorem dX7_mends_82 : decode cX7_mends 82 = .ok (.iaload, 1) := by decide +kernel
theorem dX7_mends_83 : decode cX7_mends 83 = .ok (.invokevirtual 189, 3) := by decide +kernel
theorem dX7_mends_86 : decode cX7_mends 86 = .ok (.ifCond .ne 6, 3) := by decide +kernel
theorem dX7_mends_89 : decode cX7_mends 89 = .ok (.goto 13, 3) := by decide +kernel
theorem dX7_mends_92 : decode cX7_mends 92 = .ok (.iload 7, 2) := by decide +kernel
theorem dX7_mends_94 : decode cX7_mends 94 = .ok (.istore_n 2, 1) := by decide +kernel
theorem dX7_mends_95 : decode cX7_mends 95 = .ok (.iload 5, 2) := by decide +kernel
theorem dX7_mends_97 : decode cX7_mends 97 = .ok (.istore_n 3, 1) := by decide +kernel
theorem dX7_mends_98 : decode cX7_mends 98 = .ok (.iload 6, 2) := by decide +kernel
theorem dX7_mends_100 : decode cX7_mends 100 = .ok (.istore 4, 2) := by decide +kernel
theorem dX7_mends_102 : decode cX7_mends 102 = .ok (.iinc 6 1, 3) := by decide +kernel
theorem dX7_mends_105 : decode cX7_mends 105 = .ok (.goto (-83), 3) := by decide +kernel
theorem dX7_mends_108 : decode cX7_mends 108 = .ok (.iinc 5 1, 3) := by decide +kernel
theorem dX7_mends_111 : decode cX7_mends 111 = .ok (.goto (-101), 3) := by decide +kernel
theorem dX7_mends_114 : decode cX7_mends 114 = .ok (.iload_n 2, 1) := by decide +kernel
theorem dX7_mends_115 : decode cX7_mends 115 = .ok (.iconst 3, 1) := by decide +kernel
theorem dX7_mends_116 : decode cX7_mends 116 = .ok (.if_icmp .ne 5, 3) := by decide +kernel
theorem dX7_mends_119 : decode cX7_mends 119 = .ok (.iconst 0, 1) := by decide +kernel
theorem dX7_mends_120 : decode cX7_mends 120 = .ok (.ireturn, 1) := by decide +kernel
theorem dX7_mends_121 : decode cX7_mends 121 = .ok (.aload_n 0, 1) := by decide +kernel
theorem dX7_mends_122 : decode cX7_mends 122 = .ok (.getfield 25, 3) := by decide +kernel
theorem dX7_mends_125 : decode cX7_mends 125 = .ok (.iload_n 1, 1) := by decide +kernel
theorem dX7_mends_126 : decode cX7_mends 126 = .ok (.iload_n 3, 1) := by decide +kernel
theorem dX7_mends_127 : decode cX7_mends 127 = .ok (.iastore, 1) := by decide +kernel
theorem dX7_mends_128 : decode cX7_mends 128 = .ok (.aload_n 0, 1) := by decide +kernel
theorem dX7_mends_129 : decode cX7_mends 129 = .ok (.getfield 28, 3) := by decide +kernel
theorem dX7_mends_132 : decode cX7_mends 132 = .ok (.iload_n 1, 1) := by decide +kernel
theorem dX7_mends_133 : decode cX7_mends 133 = .ok (.iload 4, 2) := by decide +kernel
theorem dX7_mends_135 : decode cX7_mends 135 = .ok (.iastore, 1) := by decide +kernel
theorem dX7_mends_136 : decode cX7_mends 136 = .ok (.iconst 1, 1) := by decide +kernel
theorem dX7_mends_137 : decode cX7_mends 137 = .ok (.ireturn, 1) := by decide +kernel
theorem dX7_swap_0 : decode cX7_swap 0 = .ok (.iload_n 1, 1) := by decide +kernel
theorem dX7_swap_1 : decode cX7_swap 1 = .ok (.invokestatic 158, 3) := by decide +kernel
theorem dX7_swap_4 : decode cX7_swap 4 = .ok (.ifCond .eq 10, 3) := by decide +kernel
theorem dX7_swap_7 : decode cX7_swap 7 = .ok (.iload_n 2, 1) := by decide +kernel
theorem dX7_swap_8 : decode cX7_swap 8 = .ok (.invokestatic 158, 3) := by decide +kernel
theorem dX7_swap_11 : decode cX7_swap 11 = .ok (.ifCond .ne 5, 3) := by decide +kernel
theorem dX7_swap_14 : decode cX7_swap 14 = .ok (.iconst (-1), 1) := by decide +kernel
theorem dX7_swap_15 : decode cX7_swap 15 = .ok (.ireturn, 1) := by decide +kernel
theorem dX7_swap_16 : decode cX7_swap 16 = .ok (.iload_n 1, 1) := by decide +kernel
theorem dX7_swap_17 : decode cX7_swap 17 = .ok (.iload_n 2, 1) := by decide +kernel
theorem dX7_swap_18 : decode cX7_swap 18 = .ok (.if_icmp .ne 6, 3) := by decide +kernel
theorem dX7_swap_21 : decode cX7_swap 21 = .ok (.bipush (-2), 2) := by decide +kernel
theorem dX7_swap_23 : decode cX7_swap 23 = .ok (.ireturn, 1) := by decide +kernel
theorem dX7_swap_24 : decode cX7_swap 24 = .ok (.aload_n 0, 1) := by decide +kernel
theorem dX7_swap_25 : decode cX7_swap 25 = .ok (.iconst 0, 1) := by decide +kernel
theorem dX7_swap_26 : decode cX7_swap 26 = .ok (.putfield 193, 3) := by decide +kernel
theorem dX7_swap_29 : decode cX7_swap 29 = .ok (.iconst 0, 1) := by decide +kernel
theorem dX7_swap_30 : decode cX7_swap 30 = .ok (.istore_n 3, 1) := by decide +kernel
theorem dX7_swap_31 : decode cX7_swap 31 = .ok (.iconst 0, 1) := by decide +kernel
theorem dX7_swap_32 : decode cX7_swap 32 = .ok (.istore 4, 2) := by decide +kernel
theorem dX7_swap_34 : decode cX7_swap 34 = .ok (.iload 4, 2) := by decide +kernel
theorem dX7_swap_36 : decode cX7_swap 36 = .ok (.aload_n 0, 1) := by decide +kernel
theorem dX7_swap_37 : decode cX7_swap 37 = .ok (.getfield 147, 3) := by decide +kernel
theorem dX7_swap_40 : decode cX7_swap 40 = .ok (.if_icmp .ge 92, 3) := by decide +kernel
theorem dX7_swap_43 : decode cX7_swap 43 = .ok (.aload_n 0, 1) := by decide +kernel
theorem dX7_swap_44 : decode cX7_swap 44 = .ok (.getfield 34, 3) := by decide +kernel
theorem dX7_swap_47 : decode cX7_swap 47 = .ok (.iload 4, 2) := by decide +kernel
theorem dX7_swap_49 : decode cX7_swap 49 = .ok (.iaload, 1) := by decide +kernel
theorem dX7_swap_50 : decode cX7_swap 50 = .ok (.iload_n 1, 1) := by decide +kernel
theorem dX7_swap_51 : decode cX7_swap 51 = .ok (.if_icmp .eq 6, 3) := by decide +kernel
theorem dX7_swap_54 : decode cX7_swap 54 = .ok (.goto 72, 3) := by decide +kernel
theorem dX7_swap_57 : decode cX7_swap 57 = .ok (.aload_n 0, 1) := by decide +kernel
theorem dX7_swap_58 : decode cX7_swap 58 = .ok (.getfield 34, 3) := by decide +kernel
theorem dX7_swap_61 : decode cX7_swap 61 = .ok (.iload 4, 2) := by decide +kernel
theorem dX7_swap_63 : decode cX7_swap 63 = .ok (.iload_n 2, 1) := by decide +kernel
theorem dX7_swap_64 : decode cX7_swap 64 = .ok (.iastore, 1) := by decide +kernel
theorem dX7_swap_65 : decode cX7_swap 65 = .ok (.aload_n 0, 1) := by decide +kernel
theorem dX7_swap_66 : decode cX7_swap 66 = .ok (.aload_n 0, 1) := by decide +kernel
theorem dX7_swap_67 : decode cX7_swap 67 = .ok (.getfield 25, 3) := by decide +kernel
theorem dX7_swap_70 : decode cX7_swap 70 = .ok (.iload 4, 2) := by decide +kernel
theorem dX7_swap_72 : decode cX7_swap 72 = .ok (.iaload, 1) := by decide +kernel
theorem dX7_swap_73 : decode cX7_swap 73 = .ok (.aload_n 0, 1) := by decide +kernel
theorem dX7_swap_74 : decode cX7_swap 74 = .ok (.getfield 28, 3) := by decide +kernel
theorem dX7_swap_77 : decode cX7_swap 77 = .ok (.iload 4, 2) := by decide +kernel
theorem dX7_swap_79 : decode cX7_swap 79 = .ok (.iaload, 1) := by decide +kernel
theorem dX7_swap_80 : decode cX7_swap 80 = .ok (.iload_n 2, 1) := by decide +kernel
theorem dX7_swap_81 : decode cX7_swap 81 = .ok (.invokevirtual 189, 3) := by decide +kernel
theorem dX7_swap_84 : decode cX7_swap 84 = .ok (.ifCond .eq 6, 3) := by decide +kernel
theorem dX7_swap_87 : decode cX7_swap 87 = .ok (.goto 39, 3) := by decide +kernel
theorem dX7_swap_90 : decode cX7_swap 90 = .ok (.aload_n 0, 1) := by decide +kernel
theorem dX7_swap_91 : decode cX7_swap 91 = .ok (.iload 4, 2) := by decide +kernel
theorem dX7_swap_93 : decode cX7_swap 93 = .ok (.invokevirtual 196, 3) := by decide +kernel
theorem dX7_swap_96 : decode cX7_swap 96 = .ok (.ifCond .eq 9, 3) := by decide +kernel
theorem dX7_swap_99 : decode cX7_swap 99 = .ok (.iinc 3 1, 3) := by decide +kernel
theorem dX7_swap_102 : decode cX7_swap 102 = .ok (.goto 24, 3) := by decide +kernel
theorem dX7_swap_105 : decode cX7_swap 105 = .ok (.aload_n 0, 1) := by decide +kernel
theorem dX7_swap_106 : decode cX7_swap 106 = .ok (.getfield 43, 3) := by decide +kernel
theorem dX7_swap_109 : decode cX7_swap 109 = .ok (.aload_n 0, 1) := by decide +kernel
theorem dX7_swap_110 : decode cX7_swap 110 = .ok (.getfield 193, 3) := by decide +kernel
theorem dX7_swap_113 : decode cX7_swap 113 = .ok (.iload 4, 2) := by decide +kernel
theorem dX7_swap_115 : decode cX7_swap 115 = .ok (.iastore, 1) := by decide +kernel
theorem dX7_swap_116 : decode cX7_swap 116 = .ok (.aload_n 0, 1) := by decide +kernel
theorem dX7_swap_117 : decode cX7_swap 117 = .ok (.dup, 1) := by decide +kernel
theorem dX7_swap_118 : decode cX7_swap 118 = .ok (.getfield 193, 3) := by decide +kernel
theorem dX7_swap_121 : decode cX7_swap 121 = .ok (.iconst 1, 1) := by decide +kernel
theorem dX7_swap_122 : decode cX7_swap 122 = .ok (.iadd, 1) := by decide +kernel
theorem dX7_swap_123 : decode cX7_swap 123 = .ok (.putfield 193, 3) := by decide +kernel
theorem dX7_swap_126 : decode cX7_swap 126 = .ok (.iinc 4 1, 3) := by decide +kernel
theorem dX7_swap_129 : decode cX7_swap 129 = .ok (.goto (-95), 3) := by decide +kernel
theorem dX7_swap_132 : decode cX7_swap 132 = .ok (.iload_n 3, 1) := by decide +kernel
theorem dX7_swap_133 : decode cX7_swap 133 = .ok (.ireturn, 1) := by decide +kernel
theorem dX7_broken_0 : decode cX7_broken 0 = .ok (.iload_n 1, 1) := by decide +kernel
theorem dX7_broken_1 : decode cX7_broken 1 = .ok (.iconst (-1), 1) := by decide +kernel
theorem dX7_broken_2 : decode cX7_broken 2 = .ok (.if_icmp .ne 10, 3) := by decide +kernel
theorem dX7_broken_5 : decode cX7_broken 5 = .ok (.aload_n 0, 1) := by decide +kernel
theorem dX7_broken_6 : decode cX7_broken 6 = .ok (.getfield 193, 3) := by decide +kernel
theorem dX7_broken_9 : decode cX7_broken 9 = .ok (.goto 29, 3) := by decide +kernel
theorem dX7_broken_12 : decode cX7_broken 12 = .ok (.iload_n 1, 1) := by decide +kernel
theorem dX7_broken_13 : decode cX7_broken 13 = .ok (.i2l, 1) := by decide +kernel
theorem dX7_broken_14 : decode cX7_broken 14 = .ok (.lconst 0, 1) := by decide +kernel
theorem dX7_broken_15 : decode cX7_broken 15 = .ok (.aload_n 0, 1) := by decide +kernel
theorem dX7_broken_16 : decode cX7_broken 16 = .ok (.getfield 193, 3) := by decide +kernel
theorem dX7_broken_19 : decode cX7_broken 19 = .ok (.iconst 1, 1) := by decide +kernel
theorem dX7_broken_20 : decode cX7_broken 20 = .ok (.isub, 1) := by decide +kernel
theorem dX7_broken_21 : decode cX7_broken 21 = .ok (.i2l, 1) := by decide +kernel
theorem dX7_broken_22 : decode cX7_broken 22 = .ok (.invokestatic 152, 3) := by decide +kernel
theorem dX7_broken_25 : decode cX7_broken 25 = .ok (.ifCond .eq 12, 3) := by decide +kernel
theorem dX7_broken_28 : decode cX7_broken 28 = .ok (.aload_n 0, 1) := by decide +kernel
theorem dX7_broken_29 : decode cX7_broken 29 = .ok (.getfield 43, 3) := by decide +kernel
theorem dX7_broken_32 : decode cX7_broken 32 = .ok (.iload_n 1, 1) := by decide +kernel
theorem dX7_broken_33 : decode cX7_broken 33 = .ok (.iaload, 1) := by decide +kernel
theorem dX7_broken_34 : decode cX7_broken 34 = .ok (.goto 4, 3) := by decide +kernel
theorem dX7_broken_37 : decode cX7_broken 37 = .ok (.iconst (-1), 1) := by decide +kernel
theorem dX7_broken_38 : decode cX7_broken 38 = .ok (.ireturn, 1) := by decide +kernel
theorem dX7_feed_0 : decode cX7_feed 0 = .ok (.iload_n 3, 1) := by decide +kernel
theorem dX7_feed_1 : decode cX7_feed 1 = .ok (.i2l, 1) := by decide +kernel
theorem dX7_feed_2 : decode cX7_feed 2 = .ok (.lconst 1, 1) := by decide +kernel
theorem dX7_feed_3 : decode cX7_feed 3 = .ok (.ldc2_w 150, 3) := by decide +kernel
theorem dX7_feed_6 : decode cX7_feed 6 = .ok (.invokestatic 152, 3) := by decide +kernel
theorem dX7_feed_9 : decode cX7_feed 9 = .ok (.ifCond .ne 6, 3) := by decide +kernel
theorem dX7_feed_12 : decode cX7_feed 12 = .ok (.bipush (-2), 2) := by decide +kernel
theorem dX7_feed_14 : decode cX7_feed 14 = .ok (.ireturn, 1) := by decide +kernel
theorem dX7_feed_15 : decode cX7_feed 15 = .ok (.aload_n 0, 1) := by decide +kernel
theorem dX7_feed_16 : decode cX7_feed 16 = .ok (.getfield 199, 3) := by decide +kernel
theorem dX7_feed_19 : decode cX7_feed 19 = .ok (.iload_n 3, 1) := by decide +kernel
theorem dX7_feed_20 : decode cX7_feed 20 = .ok (.iadd, 1) := by decide +kernel
theorem dX7_feed_21 : decode cX7_feed 21 = .ok (.bipush 60, 2) := by decide +kernel
theorem dX7_feed_23 : decode cX7_feed 23 = .ok (.if_icmp .le 6, 3) := by decide +kernel
theorem dX7_feed_26 : decode cX7_feed 26 = .ok (.bipush (-4), 2) := by decide +kernel
theorem dX7_feed_28 : decode cX7_feed 28 = .ok (.ireturn, 1) := by decide +kernel
theorem dX7_feed_29 : decode cX7_feed 29 = .ok (.iload_n 3, 1) := by decide +kernel
theorem dX7_feed_30 : decode cX7_feed 30 = .ok (.iconst 1, 1) := by decide +kernel
theorem dX7_feed_31 : decode cX7_feed 31 = .ok (.isub, 1) := by decide +kernel
theorem dX7_feed_32 : decode cX7_feed 32 = .ok (.istore 4, 2) := by decide +kernel
theorem dX7_feed_34 : decode cX7_feed 34 = .ok (.iload 4, 2) := by decide +kernel
theorem dX7_feed_36 : decode cX7_feed 36 = .ok (.ifCond .lt 40, 3) := by decide +kernel
theorem dX7_feed_39 : decode cX7_feed 39 = .ok (.aload_n 0, 1) := by decide +kernel
theorem dX7_feed_40 : decode cX7_feed 40 = .ok (.getfield 46, 3) := by decide +kernel
theorem dX7_feed_43 : decode cX7_feed 43 = .ok (.aload_n 0, 1) := by decide +kernel
theorem dX7_feed_44 : decode cX7_feed 44 = .ok (.getfield 199, 3) := by decide +kernel
theorem dX7_feed_47 : decode cX7_feed 47 = .ok (.lload_n 1, 1) := by decide +kernel
theorem dX7_feed_48 : decode cX7_feed 48 = .ok (.bipush 8, 2) := by decide +kernel
theorem dX7_feed_50 : decode cX7_feed 50 = .ok (.iload 4, 2) := by decide +kernel
theorem dX7_feed_52 : decode cX7_feed 52 = .ok (.imul, 1) := by decide +kernel
theorem dX7_feed_53 : decode cX7_feed 53 = .ok (.lshr, 1) := by decide +kernel
theorem dX7_feed_54 : decode cX7_feed 54 = .ok (.ldc2_w 202, 3) := by decide +kernel
theorem dX7_feed_57 : decode cX7_feed 57 = .ok (.land, 1) := by decide +kernel
theorem dX7_feed_58 : decode cX7_feed 58 = .ok (.l2i, 1) := by decide +kernel
theorem dX7_feed_59 : decode cX7_feed 59 = .ok (.iastore, 1) := by decide +kernel
theorem dX7_feed_60 : decode cX7_feed 60 = .ok (.aload_n 0, 1) := by decide +kernel
theorem dX7_feed_61 : decode cX7_feed 61 = .ok (.dup, 1) := by decide +kernel
theorem dX7_feed_62 : decode cX7_feed 62 = .ok (.getfield 199, 3) := by decide +kernel
theorem dX7_feed_65 : decode cX7_feed 65 = .ok (.iconst 1, 1) := by decide +kernel
theorem dX7_feed_66 : decode cX7_feed 66 = .ok (.iadd, 1) := by decide +kernel
theorem dX7_feed_67 : decode cX7_feed 67 = .ok (.putfield 199, 3) := by decide +kernel
theorem dX7_feed_70 : decode cX7_feed 70 = .ok (.iinc 4 (-1), 3) := by decide +kernel
theorem dX7_feed_73 : decode cX7_feed 73 = .ok (.goto (-39), 3) := by decide +kernel
theorem dX7_feed_76 : decode cX7_feed 76 = .ok (.aload_n 0, 1) := by decide +kernel
theorem dX7_feed_77 : decode cX7_feed 77 = .ok (.getfield 199, 3) := by decide +kernel
theorem dX7_feed_80 : decode cX7_feed 80 = .ok (.ireturn, 1) := by decide +kernel
theorem dX7_sign_0 : decode cX7_sign 0 = .ok (.aload_n 0, 1) := by decide +kernel
theorem dX7_sign_1 : decode cX7_sign 1 = .ok (.getfield 204, 3) := by decide +kernel
theorem dX7_sign_4 : decode cX7_sign 4 = .ok (.aload_n 0, 1) := by decide +kernel
theorem dX7_sign_5 : decode cX7_sign 5 = .ok (.getfield 199, 3) := by decide +kernel
theorem dX7_sign_8 : decode cX7_sign 8 = .ok (.if_icmp .ge 15, 3) := by decide +kernel
theorem dX7_sign_11 : decode cX7_sign 11 = .ok (.aload_n 0, 1) := by decide +kernel
theorem dX7_sign_12 : decode cX7_sign 12 = .ok (.getfield 46, 3) := by decide +kernel
theorem dX7_sign_15 : decode cX7_sign 15 = .ok (.aload_n 0, 1) := by decide +kernel
theorem dX7_sign_16 : decode cX7_sign 16 = .ok (.getfield 204, 3) := by decide +kernel
theorem dX7_sign_19 : decode cX7_sign 19 = .ok (.iaload, 1) := by decide +kernel
theorem dX7_sign_20 : decode cX7_sign 20 = .ok (.goto 4, 3) := by decide +kernel
theorem dX7_sign_23 : decode cX7_sign 23 = .ok (.iconst (-1), 1) := by decide +kernel
theorem dX7_sign_24 : decode cX7_sign 24 = .ok (.ireturn, 1) := by decide +kernel
theorem dX7_isSlot_0 : decode cX7_isSlot 0 = .ok (.iload_n 0, 1) := by decide +kernel
theorem dX7_isSlot_1 : decode cX7_isSlot 1 = .ok (.bipush 97, 2) := by decide +kernel
theorem dX7_isSlot_3 : decode cX7_isSlot 3 = .ok (.if_icmp .lt 13, 3) := by decide +kernel
theorem dX7_isSlot_6 : decode cX7_isSlot 6 = .ok (.iload_n 0, 1) := by decide +kernel
theorem dX7_isSlot_7 : decode cX7_isSlot 7 = .ok (.bipush 104, 2) := by decide +kernel
theorem dX7_isSlot_9 : decode cX7_isSlot 9 = .ok (.if_icmp .gt 7, 3) := by decide +kernel
theorem dX7_isSlot_12 : decode cX7_isSlot 12 = .ok (.iconst 1, 1) := by decide +kernel
theorem dX7_isSlot_13 : decode cX7_isSlot 13 = .ok (.goto 4, 3) := by decide +kernel
theorem dX7_isSlot_16 : decode cX7_isSlot 16 = .ok (.iconst 0, 1) := by decide +kernel
theorem dX7_isSlot_17 : decode cX7_isSlot 17 = .ok (.ireturn, 1) := by decide +kernel
theorem dX7_isScene_0 : decode cX7_isScene 0 = .ok (.iload_n 0, 1) := by decide +kernel
theorem dX7_isScene_1 : decode cX7_isScene 1 = .ok (.bipush 65, 2) := by decide +kernel
theorem dX7_isScene_3 : decode cX7_isScene 3 = .ok (.if_icmp .lt 13, 3) := by decide +kernel
theorem dX7_isScene_6 : decode cX7_isScene 6 = .ok (.iload_n 0, 1) := by decide +kernel
theorem dX7_isScene_7 : decode cX7_isScene 7 = .ok (.bipush 72, 2) := by decide +kernel
theorem dX7_isScene_9 : decode cX7_isScene 9 = .ok (.if_icmp .gt 7, 3) := by decide +kernel
theorem dX7_isScene_12 : decode cX7_isScene 12 = .ok (.iconst 1, 1) := by decide +kernel
theorem dX7_isScene_13 : decode cX7_isScene 13 = .ok (.goto 4, 3) := by decide +kernel
theorem dX7_isScene_16 : decode cX7_isScene 16 = .ok (.iconst 0, 1) := by decide +kernel
theorem dX7_isScene_17 : decode cX7_isScene 17 = .ok (.ireturn, 1) := by decide +kernel
theorem dX7_isTold_0 : decode cX7_isTold 0 = .ok (.iload_n 1, 1) := by decide +kernel
theorem dX7_isTold_1 : decode cX7_isTold 1 = .ok (.i2l, 1) := by decide +kernel
theorem dX7_isTold_2 : decode cX7_isTold 2 = .ok (.lconst 0, 1) := by decide +kernel
theorem dX7_isTold_3 : decode cX7_isTold 3 = .ok (.ldc2_w 167, 3) := by decide +kernel
theorem dX7_isTold_6 : decode cX7_isTold 6 = .ok (.invokestatic 152, 3) := by decide +kernel
theorem dX7_isTold_9 : decode cX7_isTold 9 = .ok (.ifCond .eq 16, 3) := by decide +kernel
theorem dX7_isTold_12 : decode cX7_isTold 12 = .ok (.aload_n 0, 1) := by decide +kernel
theorem dX7_isTold_13 : decode cX7_isTold 13 = .ok (.getfield 55, 3) := by decide +kernel
theorem dX7_isTold_16 : decode cX7_isTold 16 = .ok (.iload_n 1, 1) := by decide +kernel
theorem dX7_isTold_17 : decode cX7_isTold 17 = .ok (.iaload, 1) := by decide +kernel
theorem dX7_isTold_18 : decode cX7_isTold 18 = .ok (.ifCond .le 7, 3) := by decide +kernel
theorem dX7_isTold_21 : decode cX7_isTold 21 = .ok (.iconst 1, 1) := by decide +kernel
theorem dX7_isTold_22 : decode cX7_isTold 22 = .ok (.goto 4, 3) := by decide +kernel
theorem dX7_isTold_25 : decode cX7_isTold 25 = .ok (.iconst 0, 1) := by decide +kernel
theorem dX7_isTold_26 : decode cX7_isTold 26 = .ok (.ireturn, 1) := by decide +kernel
theorem dX7_parses_0 : decode cX7_parses 0 = .ok (.aload_n 0, 1) := by decide +kernel
theorem dX7_parses_1 : decode cX7_parses 1 = .ok (.iconst 0, 1) := by decide +kernel
theorem dX7_parses_2 : decode cX7_parses 2 = .ok (.putfield 207, 3) := by decide +kernel
theorem dX7_parses_5 : decode cX7_parses 5 = .ok (.aload_n 0, 1) := by decide +kernel
theorem dX7_parses_6 : decode cX7_parses 6 = .ok (.invokevirtual 210, 3) := by decide +kernel
theorem dX7_parses_9 : decode cX7_parses 9 = .ok (.istore_n 2, 1) := by decide +kernel
theorem dX7_parses_10 : decode cX7_parses 10 = .ok (.iload_n 2, 1) := by decide +kernel
theorem dX7_parses_11 : decode cX7_parses 11 = .ok (.bipush 91, 2) := by decide +kernel
theorem dX7_parses_13 : decode cX7_parses 13 = .ok (.if_icmp .eq 15, 3) := by decide +kernel
theorem dX7_parses_16 : decode cX7_parses 16 = .ok (.iload_n 2, 1) := by decide +kernel
theorem dX7_parses_17 : decode cX7_parses 17 = .ok (.bipush 123, 2) := by decide +kernel
theorem dX7_parses_19 : decode cX7_parses 19 = .ok (.if_icmp .eq 9, 3) := by decide +kernel
theorem dX7_parses_22 : decode cX7_parses 22 = .ok (.iload_n 2, 1) := by decide +kernel
theorem dX7_parses_23 : decode cX7_parses 23 = .ok (.bipush 40, 2) := by decide +kernel
theorem dX7_parses_25 : decode cX7_parses 25 = .ok (.if_icmp .ne 41, 3) := by decide +kernel
theorem dX7_parses_28 : decode cX7_parses 28 = .ok (.aload_n 0, 1) := by decide +kernel
theorem dX7_parses_29 : decode cX7_parses 29 = .ok (.getfield 58, 3) := by decide +kernel
theorem dX7_parses_32 : decode cX7_parses 32 = .ok (.aload_n 0, 1) := by decide +kernel
theorem dX7_parses_33 : decode cX7_parses 33 = .ok (.getfield 207, 3) := by decide +kernel
theorem dX7_parses_36 : decode cX7_parses 36 = .ok (.iload_n 2, 1) := by decide +kernel
theorem dX7_parses_37 : decode cX7_parses 37 = .ok (.iastore, 1) := by decide +kernel
theorem dX7_parses_38 : decode cX7_parses 38 = .ok (.aload_n 0, 1) := by decide +kernel
theorem dX7_parses_39 : decode cX7_parses 39 = .ok (.dup, 1) := by decide +kernel
theorem dX7_parses_40 : decode cX7_parses 40 = .ok (.getfield 207, 3) := by decide +kernel
theorem dX7_parses_43 : decode cX7_parses 43 = .ok (.iconst 1, 1) := by decide +kernel
theorem dX7_parses_44 : decode cX7_parses 44 = .ok (.iadd, 1) := by decide +kernel
theorem dX7_parses_45 : decode cX7_parses 45 = .ok (.putfield 207, 3) := by decide +kernel
theorem dX7_parses_48 : decode cX7_parses 48 = .ok (.aload_n 0, 1) := by decide +kernel
theorem dX7_parses_49 : decode cX7_parses 49 = .ok (.dup, 1) := by decide +kernel
theorem dX7_parses_50 : decode cX7_parses 50 = .ok (.getfield 204, 3) := by decide +kernel
theorem dX7_parses_53 : decode cX7_parses 53 = .ok (.iconst 1, 1) := by decide +kernel
theorem dX7_parses_54 : decode cX7_parses 54 = .ok (.iadd, 1) := by decide +kernel
theorem dX7_parses_55 : decode cX7_parses 55 = .ok (.putfield 204, 3) := by decide +kernel
theorem dX7_parses_58 : decode cX7_parses 58 = .ok (.aload_n 0, 1) := by decide +kernel
theorem dX7_parses_59 : decode cX7_parses 59 = .ok (.invokevirtual 210, 3) := by decide +kernel
theorem dX7_parses_62 : decode cX7_parses 62 = .ok (.istore_n 2, 1) := by decide +kernel
theorem dX7_parses_63 : decode cX7_parses 63 = .ok (.goto (-53), 3) := by decide +kernel
theorem dX7_parses_66 : decode cX7_parses 66 = .ok (.iload_n 2, 1) := by decide +kernel
theorem dX7_parses_67 : decode cX7_parses 67 = .ok (.invokestatic 214, 3) := by decide +kernel
theorem dX7_parses_70 : decode cX7_parses 70 = .ok (.ifCond .ne 12, 3) := by decide +kernel
theorem dX7_parses_73 : decode cX7_parses 73 = .ok (.iload_n 2, 1) := by decide +kernel
theorem dX7_parses_74 : decode cX7_parses 74 = .ok (.invokestatic 217, 3) := by decide +kernel
theorem dX7_parses_77 : decode cX7_parses 77 = .ok (.ifCond .ne 5, 3) := by decide +kernel
theorem dX7_parses_80 : decode cX7_parses 80 = .ok (.iconst 0, 1) := by decide +kernel
theorem dX7_parses_81 : decode cX7_parses 81 = .ok (.ireturn, 1) := by decide +kernel
theorem dX7_parses_82 : decode cX7_parses 82 = .ok (.iload_n 2, 1) := by decide +kernel
theorem dX7_parses_83 : decode cX7_parses 83 = .ok (.invokestatic 217, 3) := by decide +kernel
theorem dX7_parses_86 : decode cX7_parses 86 = .ok (.ifCond .eq 37, 3) := by decide +kernel
theorem dX7_parses_89 : decode cX7_parses 89 = .ok (.aload_n 0, 1) := by decide +kernel
theorem dX7_parses_90 : decode cX7_parses 90 = .ok (.iload_n 2, 1) := by decide +kernel
theorem dX7_parses_91 : decode cX7_parses 91 = .ok (.bipush 65, 2) := by decide +kernel
theorem dX7_parses_93 : decode cX7_parses 93 = .ok (.isub, 1) := by decide +kernel
theorem dX7_parses_94 : decode cX7_parses 94 = .ok (.invokevirtual 220, 3) := by decide +kernel
theorem dX7_parses_97 : decode cX7_parses 97 = .ok (.ifCond .eq 11, 3) := by decide +kernel
theorem dX7_parses_100 : decode cX7_parses 100 = .ok (.iload_n 2, 1) := by decide +kernel
theorem dX7_parses_101 : decode cX7_parses 101 = .ok (.bipush 65, 2) := by decide +kernel
theorem dX7_parses_103 : decode cX7_parses 103 = .ok (.isub, 1) := by decide +kernel
theorem dX7_parses_104 : decode cX7_parses 104 = .ok (.iload_n 1, 1) := by decide +kernel
theorem dX7_parses_105 : decode cX7_parses 105 = .ok (.if_icmp .ne 18, 3) := by decide +kernel
theorem dX7_parses_108 : decode cX7_parses 108 = .ok (.aload_n 0, 1) := by decide +kernel
theorem dX7_parses_109 : decode cX7_parses 109 = .ok (.getfield 223, 3) := by decide +kernel
theorem dX7_parses_112 : decode cX7_parses 112 = .ok (.ifCond .ge 11, 3) := by decide +kernel
theorem dX7_parses_115 : decode cX7_parses 115 = .ok (.aload_n 0, 1) := by decide +kernel
theorem dX7_parses_116 : decode cX7_parses 116 = .ok (.aload_n 0, 1) := by decide +kernel
theorem dX7_parses_117 : decode cX7_parses 117 = .ok (.getfield 204, 3) := by decide +kernel
theorem dX7_parses_120 : decode cX7_parses 120 = .ok (.putfield 223, 3) := by decide +kernel
theorem dX7_parses_123 : decode cX7_parses 123 = .ok (.aload_n 0, 1) := by decide +kernel
theorem dX7_parses_124 : decode cX7_parses 124 = .ok (.dup, 1) := by decide +kernel
theorem dX7_parses_125 : decode cX7_parses 125 = .ok (.getfield 204, 3) := by decide +kernel
theorem dX7_parses_128 : decode cX7_parses 128 = .ok (.iconst 1, 1) := by decide +kernel
theorem dX7_parses_129 : decode cX7_parses 129 = .ok (.iadd, 1) := by decide +kernel
theorem dX7_parses_130 : decode cX7_parses 130 = .ok (.putfield 204, 3) := by decide +kernel
theorem dX7_parses_133 : decode cX7_parses 133 = .ok (.iconst 0, 1) := by decide +kernel
theorem dX7_parses_134 : decode cX7_parses 134 = .ok (.istore_n 3, 1) := by decide +kernel
theorem dX7_parses_135 : decode cX7_parses 135 = .ok (.iload_n 3, 1) := by decide +kernel
theorem dX7_parses_136 : decode cX7_parses 136 = .ok (.ifCond .ne 188, 3) := by decide +kernel
theorem dX7_parses_139 : decode cX7_parses 139 = .ok (.aload_n 0, 1) := by decide +kernel
theorem dX7_parses_140 : decode cX7_parses 140 = .ok (.invokevirtual 210, 3) := by decide +kernel
theorem dX7_parses_143 : decode cX7_parses 143 = .ok (.istore_n 2, 1) := by decide +kernel
theorem dX7_parses_144 : decode cX7_parses 144 = .ok (.aload_n 0, 1) := by decide +kernel
theorem dX7_parses_145 : decode cX7_parses 145 = .ok (.getfield 207, 3) := by decide +kernel
theorem dX7_parses_148 : decode cX7_parses 148 = .ok (.ifCond .ne 7, 3) := by decide +kernel
theorem dX7_parses_151 : decode cX7_parses 151 = .ok (.iconst 0, 1) := by decide +kernel
theorem dX7_parses_152 : decode cX7_parses 152 = .ok (.goto 14, 3) := by decide +kernel
theorem dX7_parses_155 : decode cX7_parses 155 = .ok (.aload_n 0, 1) := by decide +kernel
theorem dX7_parses_156 : decode cX7_parses 156 = .ok (.getfield 58, 3) := by decide +kernel
theorem dX7_parses_159 : decode cX7_parses 159 = .ok (.aload_n 0, 1) := by decide +kernel
theorem dX7_parses_160 : decode cX7_parses 160 = .ok (.getfield 207, 3) := by decide +kernel
theorem dX7_parses_163 : decode cX7_parses 163 = .ok (.iconst 1, 1) := by decide +kernel
theorem dX7_parses_164 : decode cX7_parses 164 = .ok (.isub, 1) := by decide +kernel
theorem dX7_parses_165 : decode cX7_parses 165 = .ok (.iaload, 1) := by decide +kernel
theorem dX7_parses_166 : decode cX7_parses 166 = .ok (.istore 4, 2) := by decide +kernel
theorem dX7_parses_168 : decode cX7_parses 168 = .ok (.iload_n 2, 1) := by decide +kernel
theorem dX7_parses_169 : decode cX7_parses 169 = .ok (.bipush 93, 2) := by decide +kernel
theorem dX7_parses_171 : decode cX7_parses 171 = .ok (.if_icmp .ne 10, 3) := by decide +kernel
theorem dX7_parses_174 : decode cX7_parses 174 = .ok (.iload 4, 2) := by decide +kernel
theorem dX7_parses_176 : decode cX7_parses 176 = .ok (.bipush 91, 2) := by decide +kernel
theorem dX7_parses_178 : decode cX7_parses 178 = .ok (.if_icmp .eq 29, 3) := by decide +kernel
theorem dX7_parses_181 : decode cX7_parses 181 = .ok (.iload_n 2, 1) := by decide +kernel
theorem dX7_parses_182 : decode cX7_parses 182 = .ok (.bipush 125, 2) := by decide +kernel
theorem dX7_parses_184 : decode cX7_parses 184 = .ok (.if_icmp .ne 10, 3) := by decide +kernel
theorem dX7_parses_187 : decode cX7_parses 187 = .ok (.iload 4, 2) := by decide +kernel
theorem dX7_parses_189 : decode cX7_parses 189 = .ok (.bipush 123, 2) := by decide +kernel
theorem dX7_parses_191 : decode cX7_parses 191 = .ok (.if_icmp .eq 16, 3) := by decide +kernel
theorem dX7_parses_194 : decode cX7_parses 194 = .ok (.iload_n 2, 1) := by decide +kernel
theorem dX7_parses_195 : decode cX7_parses 195 = .ok (.bipush 41, 2) := by decide +kernel
theorem dX7_parses_197 : decode cX7_parses 197 = .ok (.if_icmp .ne 33, 3) := by decide +kernel
theorem dX7_parses_200 : decode cX7_parses 200 = .ok (.iload 4, 2) := by decide +kernel
theorem dX7_parses_202 : decode cX7_parses 202 = .ok (.bipush 124, 2) := by decide +kernel
theorem dX7_parses_204 : decode cX7_parses 204 = .ok (.if_icmp .ne 26, 3) := by decide +kernel
theorem dX7_parses_207 : decode cX7_parses 207 = .ok (.aload_n 0, 1) := by decide +kernel
theorem dX7_parses_208 : decode cX7_parses 208 = .ok (.dup, 1) := by decide +kernel
theorem dX7_parses_209 : decode cX7_parses 209 = .ok (.getfield 207, 3) := by decide +kernel
theorem dX7_parses_212 : decode cX7_parses 212 = .ok (.iconst 1, 1) := by decide +kernel
theorem dX7_parses_213 : decode cX7_parses 213 = .ok (.isub, 1) := by decide +kernel
theorem dX7_parses_214 : decode cX7_parses 214 = .ok (.putfield 207, 3) := by decide +kernel
theorem dX7_parses_217 : decode cX7_parses 217 = .ok (.aload_n 0, 1) := by decide +kernel
theorem dX7_parses_218 : decode cX7_parses 218 = .ok (.dup, 1) := by decide +kernel
theorem dX7_parses_219 : decode cX7_parses 219 = .ok (.getfield 204, 3) := by decide +kernel
theorem dX7_parses_222 : decode cX7_parses 222 = .ok (.iconst 1, 1) := by decide +kernel
theorem dX7_parses_223 : decode cX7_parses 223 = .ok (.iadd, 1) := by decide +kernel
theorem dX7_parses_224 : decode cX7_parses 224 = .ok (.putfield 204, 3) := by decide +kernel
theorem dX7_parses_227 : decode cX7_parses 227 = .ok (.goto (-92), 3) := by decide +kernel
theorem dX7_parses_230 : decode cX7_parses 230 = .ok (.iload_n 2, 1) := by decide +kernel
theorem dX7_parses_231 : decode cX7_parses 231 = .ok (.bipush 124, 2) := by decide +kernel
theorem dX7_parses_233 : decode cX7_parses 233 = .ok (.if_icmp .ne 38, 3) := by decide +kernel
theorem dX7_parses_236 : decode cX7_parses 236 = .ok (.iload 4, 2) := by decide +kernel
theorem dX7_parses_238 : decode cX7_parses 238 = .ok (.bipush 40, 2) := by decide +kernel
theorem dX7_parses_240 : decode cX7_parses 240 = .ok (.if_icmp .ne 31, 3) := by decide +kernel
theorem dX7_parses_243 : decode cX7_parses 243 = .ok (.aload_n 0, 1) := by decide +kernel
theorem dX7_parses_244 : decode cX7_parses 244 = .ok (.getfield 58, 3) := by decide +kernel
theorem dX7_parses_247 : decode cX7_parses 247 = .ok (.aload_n 0, 1) := by decide +kernel
theorem dX7_parses_248 : decode cX7_parses 248 = .ok (.getfield 207, 3) := by decide +kernel
theorem dX7_parses_251 : decode cX7_parses 251 = .ok (.iconst 1, 1) := by decide +kernel
theorem dX7_parses_252 : decode cX7_parses 252 = .ok (.isub, 1) := by decide +kernel
theorem dX7_parses_253 : decode cX7_parses 253 = .ok (.bipush 124, 2) := by decide +kernel
theorem dX7_parses_255 : decode cX7_parses 255 = .ok (.iastore, 1) := by decide +kernel
theorem dX7_parses_256 : decode cX7_parses 256 = .ok (.aload_n 0, 1) := by decide +kernel
theorem dX7_parses_257 : decode cX7_parses 257 = .ok (.dup, 1) := by decide +kernel
theorem dX7_parses_258 : decode cX7_parses 258 = .ok (.getfield 204, 3) := by decide +kernel
theorem dX7_parses_261 : decode cX7_parses 261 = .ok (.iconst 1, 1) := by decide +kernel
theorem dX7_parses_262 : decode cX7_parses 262 = .ok (.iadd, 1) := by decide +kernel
theorem dX7_parses_263 : decode cX7_parses 263 = .ok (.putfield 204, 3) := by decide +kernel
theorem dX7_parses_266 : decode cX7_parses 266 = .ok (.iconst 1, 1) := by decide +kernel
theorem dX7_parses_267 : decode cX7_parses 267 = .ok (.istore_n 3, 1) := by decide +kernel
theorem dX7_parses_268 : decode cX7_parses 268 = .ok (.goto (-133), 3) := by decide +kernel
theorem dX7_parses_271 : decode cX7_parses 271 = .ok (.iload_n 2, 1) := by decide +kernel
theorem dX7_parses_272 : decode cX7_parses 272 = .ok (.iconst (-1), 1) := by decide +kernel
theorem dX7_parses_273 : decode cX7_parses 273 = .ok (.if_icmp .ne 12, 3) := by decide +kernel
theorem dX7_parses_276 : decode cX7_parses 276 = .ok (.aload_n 0, 1) := by decide +kernel
theorem dX7_parses_277 : decode cX7_parses 277 = .ok (.getfield 207, 3) := by decide +kernel
theorem dX7_parses_280 : decode cX7_parses 280 = .ok (.ifCond .ne 5, 3) := by decide +kernel
theorem dX7_parses_283 : decode cX7_parses 283 = .ok (.iconst 1, 1) := by decide +kernel
theorem dX7_parses_284 : decode cX7_parses 284 = .ok (.ireturn, 1) := by decide +kernel
theorem dX7_parses_285 : decode cX7_parses 285 = .ok (.iload_n 2, 1) := by decide +kernel
theorem dX7_parses_286 : decode cX7_parses 286 = .ok (.bipush 91, 2) := by decide +kernel
theorem dX7_parses_288 : decode cX7_parses 288 = .ok (.if_icmp .eq 31, 3) := by decide +kernel
theorem dX7_parses_291 : decode cX7_parses 291 = .ok (.iload_n 2, 1) := by decide +kernel
theorem dX7_parses_292 : decode cX7_parses 292 = .ok (.bipush 123, 2) := by decide +kernel
theorem dX7_parses_294 : decode cX7_parses 294 = .ok (.if_icmp .eq 25, 3) := by decide +kernel
theorem dX7_parses_297 : decode cX7_parses 297 = .ok (.iload_n 2, 1) := by decide +kernel
theorem dX7_parses_298 : decode cX7_parses 298 = .ok (.bipush 40, 2) := by decide +kernel
theorem dX7_parses_300 : decode cX7_parses 300 = .ok (.if_icmp .eq 19, 3) := by decide +kernel
theorem dX7_parses_303 : decode cX7_parses 303 = .ok (.iload_n 2, 1) := by decide +kernel
theorem dX7_parses_304 : decode cX7_parses 304 = .ok (.invokestatic 214, 3) := by decide +kernel
theorem dX7_parses_307 : decode cX7_parses 307 = .ok (.ifCond .ne 12, 3) := by decide +kernel
theorem dX7_parses_310 : decode cX7_parses 310 = .ok (.iload_n 2, 1) := by decide +kernel
theorem dX7_parses_311 : decode cX7_parses 311 = .ok (.invokestatic 217, 3) := by decide +kernel
theorem dX7_parses_314 : decode cX7_parses 314 = .ok (.ifCond .ne 5, 3) := by decide +kernel
theorem dX7_parses_317 : decode cX7_parses 317 = .ok (.iconst 0, 1) := by decide +kernel
theorem dX7_parses_318 : decode cX7_parses 318 = .ok (.ireturn, 1) := by decide +kernel
theorem dX7_parses_319 : decode cX7_parses 319 = .ok (.iconst 1, 1) := by decide +kernel
theorem dX7_parses_320 : decode cX7_parses 320 = .ok (.istore_n 3, 1) := by decide +kernel
theorem dX7_parses_321 : decode cX7_parses 321 = .ok (.goto (-186), 3) := by decide +kernel
theorem dX7_parses_324 : decode cX7_parses 324 = .ok (.goto (-319), 3) := by decide +kernel
theorem dX7_standsInOther_0 : decode cX7_standsInOther 0 = .ok (.iconst 0, 1) := by decide +kernel
theorem dX7_standsInOther_1 : decode cX7_standsInOther 1 = .ok (.istore_n 2, 1) := by decide +kernel
theorem dX7_standsInOther_2 : decode cX7_standsInOther 2 = .ok (.iconst 0, 1) := by decide +kernel
theorem dX7_standsInOther_3 : decode cX7_standsInOther 3 = .ok (.istore_n 3, 1) := by decide +kernel
theorem dX7_standsInOther_4 : decode cX7_standsInOther 4 = .ok (.iload_n 3, 1) := by decide +kernel
theorem dX7_standsInOther_5 : decode cX7_standsInOther 5 = .ok (.bipush 8, 2) := by decide +kernel
theorem dX7_standsInOther_7 : decode cX7_standsInOther 7 = .ok (.if_icmp .ge 66, 3) := by decide +kernel
theorem dX7_standsInOther_10 : decode cX7_standsInOther 10 = .ok (.iconst 0, 1) := by decide +kernel
theorem dX7_standsInOther_11 : decode cX7_standsInOther 11 = .ok (.istore 4, 2) := by decide +kernel
theorem dX7_standsInOther_13 : decode cX7_standsInOther 13 = .ok (.iload 4, 2) := by decide +kernel
theorem dX7_standsInOther_15 : decode cX7_standsInOther 15 = .ok (.aload_n 0, 1) := by decide +kernel
theorem dX7_standsInOther_16 : decode cX7_standsInOther 16 = .ok (.getfield 52, 3) := by decide +kernel
theorem dX7_standsInOther_19 : decode cX7_standsInOther 19 = .ok (.iload_n 3, 1) := by decide +kernel
theorem dX7_standsInOther_20 : decode cX7_standsInOther 20 = .ok (.iaload, 1) := by decide +kernel
theorem dX7_standsInOther_21 : decode cX7_standsInOther 21 = .ok (.if_icmp .ge 46, 3) := by decide +kernel
theorem dX7_standsInOther_24 : decode cX7_standsInOther 24 = .ok (.aload_n 0, 1) := by decide +kernel
theorem dX7_standsInOther_25 : decode cX7_standsInOther 25 = .ok (.iload_n 3, 1) := by decide +kernel
theorem dX7_standsInOther_26 : decode cX7_standsInOther 26 = .ok (.invokevirtual 220, 3) := by decide +kernel
theorem dX7_standsInOther_29 : decode cX7_standsInOther 29 = .ok (.ifCond .eq 38, 3) := by decide +kernel
theorem dX7_standsInOther_32 : decode cX7_standsInOther 32 = .ok (.iload_n 2, 1) := by decide +kernel
theorem dX7_standsInOther_33 : decode cX7_standsInOther 33 = .ok (.ifCond .ne 22, 3) := by decide +kernel
theorem dX7_standsInOther_36 : decode cX7_standsInOther 36 = .ok (.aload_n 0, 1) := by decide +kernel
theorem dX7_standsInOther_37 : decode cX7_standsInOther 37 = .ok (.getfield 49, 3) := by decide +kernel
theorem dX7_standsInOther_40 : decode cX7_standsInOther 40 = .ok (.bipush 60, 2) := by decide +kernel
theorem dX7_standsInOther_42 : decode cX7_standsInOther 42 = .ok (.iload_n 3, 1) := by decide +kernel
theorem dX7_standsInOther_43 : decode cX7_standsInOther 43 = .ok (.imul, 1) := by decide +kernel
theorem dX7_standsInOther_44 : decode cX7_standsInOther 44 = .ok (.iload 4, 2) := by decide +kernel
theorem dX7_standsInOther_46 : decode cX7_standsInOther 46 = .ok (.iadd, 1) := by decide +kernel
theorem dX7_standsInOther_47 : decode cX7_standsInOther 47 = .ok (.iaload, 1) := by decide +kernel
theorem dX7_standsInOther_48 : decode cX7_standsInOther 48 = .ok (.bipush 65, 2) := by decide +kernel
theorem dX7_standsInOther_50 : decode cX7_standsInOther 50 = .ok (.iload_n 1, 1) := by decide +kernel
theorem dX7_standsInOther_51 : decode cX7_standsInOther 51 = .ok (.iadd, 1) := by decide +kernel
theorem dX7_standsInOther_52 : decode cX7_standsInOther 52 = .ok (.if_icmp .ne 7, 3) := by decide +kernel
theorem dX7_standsInOther_55 : decode cX7_standsInOther 55 = .ok (.iconst 1, 1) := by decide +kernel
theorem dX7_standsInOther_56 : decode cX7_standsInOther 56 = .ok (.goto 4, 3) := by decide +kernel
theorem dX7_standsInOther_59 : decode cX7_standsInOther 59 = .ok (.iconst 0, 1) := by decide +kernel
theorem dX7_standsInOther_60 : decode cX7_standsInOther 60 = .ok (.istore_n 2, 1) := by decide +kernel
theorem dX7_standsInOther_61 : decode cX7_standsInOther 61 = .ok (.iinc 4 1, 3) := by decide +kernel
theorem dX7_standsInOther_64 : decode cX7_standsInOther 64 = .ok (.goto (-51), 3) := by decide +kernel
theorem dX7_standsInOther_67 : decode cX7_standsInOther 67 = .ok (.iinc 3 1, 3) := by decide +kernel
theorem dX7_standsInOther_70 : decode cX7_standsInOther 70 = .ok (.goto (-66), 3) := by decide +kernel
theorem dX7_standsInOther_73 : decode cX7_standsInOther 73 = .ok (.iload_n 2, 1) := by decide +kernel
theorem dX7_standsInOther_74 : decode cX7_standsInOther 74 = .ok (.ireturn, 1) := by decide +kernel
theorem dX7_scene_0 : decode cX7_scene 0 = .ok (.aload_n 0, 1) := by decide +kernel
theorem dX7_scene_1 : decode cX7_scene 1 = .ok (.iconst 0, 1) := by decide +kernel
theorem dX7_scene_2 : decode cX7_scene 2 = .ok (.putfield 204, 3) := by decide +kernel
theorem dX7_scene_5 : decode cX7_scene 5 = .ok (.aload_n 0, 1) := by decide +kernel
theorem dX7_scene_6 : decode cX7_scene 6 = .ok (.iconst (-1), 1) := by decide +kernel
theorem dX7_scene_7 : decode cX7_scene 7 = .ok (.putfield 223, 3) := by decide +kernel
theorem dX7_scene_10 : decode cX7_scene 10 = .ok (.aload_n 0, 1) := by decide +kernel
theorem dX7_scene_11 : decode cX7_scene 11 = .ok (.invokevirtual 210, 3) := by decide +kernel
theorem dX7_scene_14 : decode cX7_scene 14 = .ok (.bipush 65, 2) := by decide +kernel
theorem dX7_scene_16 : decode cX7_scene 16 = .ok (.isub, 1) := by decide +kernel
theorem dX7_scene_17 : decode cX7_scene 17 = .ok (.istore_n 1, 1) := by decide +kernel
theorem dX7_scene_18 : decode cX7_scene 18 = .ok (.iload_n 1, 1) := by decide +kernel
theorem dX7_scene_19 : decode cX7_scene 19 = .ok (.i2l, 1) := by decide +kernel
theorem dX7_scene_20 : decode cX7_scene 20 = .ok (.lconst 0, 1) := by decide +kernel
theorem dX7_scene_21 : decode cX7_scene 21 = .ok (.ldc2_w 167, 3) := by decide +kernel
theorem dX7_scene_24 : decode cX7_scene 24 = .ok (.invokestatic 152, 3) := by decide +kernel
theorem dX7_scene_27 : decode cX7_scene 27 = .ok (.istore_n 2, 1) := by decide +kernel
theorem dX7_scene_28 : decode cX7_scene 28 = .ok (.aload_n 0, 1) := by decide +kernel
theorem dX7_scene_29 : decode cX7_scene 29 = .ok (.dup, 1) := by decide +kernel
theorem dX7_scene_30 : decode cX7_scene 30 = .ok (.getfield 204, 3) := by decide +kernel
theorem dX7_scene_33 : decode cX7_scene 33 = .ok (.iload_n 2, 1) := by decide +kernel
theorem dX7_scene_34 : decode cX7_scene 34 = .ok (.ifCond .eq 7, 3) := by decide +kernel
theorem dX7_scene_37 : decode cX7_scene 37 = .ok (.iconst 1, 1) := by decide +kernel
theorem dX7_scene_38 : decode cX7_scene 38 = .ok (.goto 4, 3) := by decide +kernel
theorem dX7_scene_41 : decode cX7_scene 41 = .ok (.iconst 0, 1) := by decide +kernel
theorem dX7_scene_42 : decode cX7_scene 42 = .ok (.iadd, 1) := by decide +kernel
theorem dX7_scene_43 : decode cX7_scene 43 = .ok (.putfield 204, 3) := by decide +kernel
theorem dX7_scene_46 : decode cX7_scene 46 = .ok (.iload_n 2, 1) := by decide +kernel
theorem dX7_scene_47 : decode cX7_scene 47 = .ok (.ifCond .eq 16, 3) := by decide +kernel
theorem dX7_scene_50 : decode cX7_scene 50 = .ok (.aload_n 0, 1) := by decide +kernel
theorem dX7_scene_51 : decode cX7_scene 51 = .ok (.invokevirtual 210, 3) := by decide +kernel
theorem dX7_scene_54 : decode cX7_scene 54 = .ok (.bipush 61, 2) := by decide +kernel
theorem dX7_scene_56 : decode cX7_scene 56 = .ok (.if_icmp .ne 7, 3) := by decide +kernel
theorem dX7_scene_59 : decode cX7_scene 59 = .ok (.iconst 1, 1) := by decide +kernel
theorem dX7_scene_60 : decode cX7_scene 60 = .ok (.goto 4, 3) := by decide +kernel
theorem dX7_scene_63 : decode cX7_scene 63 = .ok (.iconst 0, 1) := by decide +kernel
theorem dX7_scene_64 : decode cX7_scene 64 = .ok (.istore_n 2, 1) := by decide +kernel
theorem dX7_scene_65 : decode cX7_scene 65 = .ok (.aload_n 0, 1) := by decide +kernel
theorem dX7_scene_66 : decode cX7_scene 66 = .ok (.dup, 1) := by decide +kernel
theorem dX7_scene_67 : decode cX7_scene 67 = .ok (.getfield 204, 3) := by decide +kernel
theorem dX7_scene_70 : decode cX7_scene 70 = .ok (.iload_n 2, 1) := by decide +kernel
theorem dX7_scene_71 : decode cX7_scene 71 = .ok (.ifCond .eq 7, 3) := by decide +kernel
theorem dX7_scene_74 : decode cX7_scene 74 = .ok (.iconst 1, 1) := by decide +kernel
theorem dX7_scene_75 : decode cX7_scene 75 = .ok (.goto 4, 3) := by decide +kernel
theorem dX7_scene_78 : decode cX7_scene 78 = .ok (.iconst 0, 1) := by decide +kernel
theorem dX7_scene_79 : decode cX7_scene 79 = .ok (.iadd, 1) := by decide +kernel
theorem dX7_scene_80 : decode cX7_scene 80 = .ok (.putfield 204, 3) := by decide +kernel
theorem dX7_scene_83 : decode cX7_scene 83 = .ok (.iload_n 2, 1) := by decide +kernel
theorem dX7_scene_84 : decode cX7_scene 84 = .ok (.ifCond .eq 15, 3) := by decide +kernel
theorem dX7_scene_87 : decode cX7_scene 87 = .ok (.aload_n 0, 1) := by decide +kernel
theorem dX7_scene_88 : decode cX7_scene 88 = .ok (.iload_n 1, 1) := by decide +kernel
theorem dX7_scene_89 : decode cX7_scene 89 = .ok (.invokevirtual 226, 3) := by decide +kernel
theorem dX7_scene_92 : decode cX7_scene 92 = .ok (.ifCond .eq 7, 3) := by decide +kernel
theorem dX7_scene_95 : decode cX7_scene 95 = .ok (.iconst 1, 1) := by decide +kernel
theorem dX7_scene_96 : decode cX7_scene 96 = .ok (.goto 4, 3) := by decide +kernel
theorem dX7_scene_99 : decode cX7_scene 99 = .ok (.iconst 0, 1) := by decide +kernel
theorem dX7_scene_100 : decode cX7_scene 100 = .ok (.istore_n 2, 1) := by decide +kernel
theorem dX7_scene_101 : decode cX7_scene 101 = .ok (.aload_n 0, 1) := by decide +kernel
theorem dX7_scene_102 : decode cX7_scene 102 = .ok (.getfield 199, 3) := by decide +kernel
theorem dX7_scene_105 : decode cX7_scene 105 = .ok (.istore_n 3, 1) := by decide +kernel
theorem dX7_scene_106 : decode cX7_scene 106 = .ok (.aload_n 0, 1) := by decide +kernel
theorem dX7_scene_107 : decode cX7_scene 107 = .ok (.iconst 0, 1) := by decide +kernel
theorem dX7_scene_108 : decode cX7_scene 108 = .ok (.putfield 199, 3) := by decide +kernel
theorem dX7_scene_111 : decode cX7_scene 111 = .ok (.iload_n 2, 1) := by decide +kernel
theorem dX7_scene_112 : decode cX7_scene 112 = .ok (.ifCond .ne 12, 3) := by decide +kernel
theorem dX7_scene_115 : decode cX7_scene 115 = .ok (.sipush (-1000), 3) := by decide +kernel
theorem dX7_scene_118 : decode cX7_scene 118 = .ok (.aload_n 0, 1) := by decide +kernel
theorem dX7_scene_119 : decode cX7_scene 119 = .ok (.getfield 204, 3) := by decide +kernel
theorem dX7_scene_122 : decode cX7_scene 122 = .ok (.isub, 1) := by decide +kernel
theorem dX7_scene_123 : decode cX7_scene 123 = .ok (.ireturn, 1) := by decide +kernel
theorem dX7_scene_124 : decode cX7_scene 124 = .ok (.aload_n 0, 1) := by decide +kernel
theorem dX7_scene_125 : decode cX7_scene 125 = .ok (.getfield 223, 3) := by decide +kernel
theorem dX7_scene_128 : decode cX7_scene 128 = .ok (.ifCond .lt 12, 3) := by decide +kernel
theorem dX7_scene_131 : decode cX7_scene 131 = .ok (.sipush (-2000), 3) := by decide +kernel
theorem dX7_scene_134 : decode cX7_scene 134 = .ok (.aload_n 0, 1) := by decide +kernel
theorem dX7_scene_135 : decode cX7_scene 135 = .ok (.getfield 223, 3) := by decide +kernel
theorem dX7_scene_138 : decode cX7_scene 138 = .ok (.isub, 1) := by decide +kernel
theorem dX7_scene_139 : decode cX7_scene 139 = .ok (.ireturn, 1) := by decide +kernel
theorem dX7_scene_140 : decode cX7_scene 140 = .ok (.aload_n 0, 1) := by decide +kernel
theorem dX7_scene_141 : decode cX7_scene 141 = .ok (.iload_n 1, 1) := by decide +kernel
theorem dX7_scene_142 : decode cX7_scene 142 = .ok (.invokevirtual 229, 3) := by decide +kernel
theorem dX7_scene_145 : decode cX7_scene 145 = .ok (.ifCond .eq 7, 3) := by decide +kernel
theorem dX7_scene_148 : decode cX7_scene 148 = .ok (.sipush (-3000), 3) := by decide +kernel
theorem dX7_scene_151 : decode cX7_scene 151 = .ok (.ireturn, 1) := by decide +kernel
theorem dX7_scene_152 : decode cX7_scene 152 = .ok (.aload_n 0, 1) := by decide +kernel
theorem dX7_scene_153 : decode cX7_scene 153 = .ok (.dup, 1) := by decide +kernel
theorem dX7_scene_154 : decode cX7_scene 154 = .ok (.getfield 232, 3) := by decide +kernel
theorem dX7_scene_157 : decode cX7_scene 157 = .ok (.iconst 1, 1) := by decide +kernel
theorem dX7_scene_158 : decode cX7_scene 158 = .ok (.iadd, 1) := by decide +kernel
theorem dX7_scene_159 : decode cX7_scene 159 = .ok (.putfield 232, 3) := by decide +kernel
theorem dX7_scene_162 : decode cX7_scene 162 = .ok (.aload_n 0, 1) := by decide +kernel
theorem dX7_scene_163 : decode cX7_scene 163 = .ok (.getfield 55, 3) := by decide +kernel
theorem dX7_scene_166 : decode cX7_scene 166 = .ok (.iload_n 1, 1) := by decide +kernel
theorem dX7_scene_167 : decode cX7_scene 167 = .ok (.aload_n 0, 1) := by decide +kernel
theorem dX7_scene_168 : decode cX7_scene 168 = .ok (.getfield 232, 3) := by decide +kernel
theorem dX7_scene_171 : decode cX7_scene 171 = .ok (.iastore, 1) := by decide +kernel
theorem dX7_scene_172 : decode cX7_scene 172 = .ok (.aload_n 0, 1) := by decide +kernel
theorem dX7_scene_173 : decode cX7_scene 173 = .ok (.getfield 52, 3) := by decide +kernel
theorem dX7_scene_176 : decode cX7_scene 176 = .ok (.iload_n 1, 1) := by decide +kernel
theorem dX7_scene_177 : decode cX7_scene 177 = .ok (.iload_n 3, 1) := by decide +kernel
theorem dX7_scene_178 : decode cX7_scene 178 = .ok (.iconst 2, 1) := by decide +kernel
theorem dX7_scene_179 : decode cX7_scene 179 = .ok (.isub, 1) := by decide +kernel
theorem dX7_scene_180 : decode cX7_scene 180 = .ok (.iastore, 1) := by decide +kernel
theorem dX7_scene_181 : decode cX7_scene 181 = .ok (.iconst 2, 1) := by decide +kernel
theorem dX7_scene_182 : decode cX7_scene 182 = .ok (.istore 4, 2) := by decide +kernel
theorem dX7_scene_184 : decode cX7_scene 184 = .ok (.iload 4, 2) := by decide +kernel
theorem dX7_scene_186 : decode cX7_scene 186 = .ok (.iload_n 3, 1) := by decide +kernel
theorem dX7_scene_187 : decode cX7_scene 187 = .ok (.if_icmp .ge 30, 3) := by decide +kernel
theorem dX7_scene_190 : decode cX7_scene 190 = .ok (.aload_n 0, 1) := by decide +kernel
theorem dX7_scene_191 : decode cX7_scene 191 = .ok (.getfield 49, 3) := by decide +kernel
theorem dX7_scene_194 : decode cX7_scene 194 = .ok (.bipush 60, 2) := by decide +kernel
theorem dX7_scene_196 : decode cX7_scene 196 = .ok (.iload_n 1, 1) := by decide +kernel
theorem dX7_scene_197 : decode cX7_scene 197 = .ok (.imul, 1) := by decide +kernel
theorem dX7_scene_198 : decode cX7_scene 198 = .ok (.iload 4, 2) := by decide +kernel
theorem dX7_scene_200 : decode cX7_scene 200 = .ok (.iadd, 1) := by decide +kernel
theorem dX7_scene_201 : decode cX7_scene 201 = .ok (.iconst 2, 1) := by decide +kernel
theorem dX7_scene_202 : decode cX7_scene 202 = .ok (.isub, 1) := by decide +kernel
theorem dX7_scene_203 : decode cX7_scene 203 = .ok (.aload_n 0, 1) := by decide +kernel
theorem dX7_scene_204 : decode cX7_scene 204 = .ok (.getfield 46, 3) := by decide +kernel
theorem dX7_scene_207 : decode cX7_scene 207 = .ok (.iload 4, 2) := by decide +kernel
theorem dX7_scene_209 : decode cX7_scene 209 = .ok (.iaload, 1) := by decide +kernel
theorem dX7_scene_210 : decode cX7_scene 210 = .ok (.iastore, 1) := by decide +kernel
theorem dX7_scene_211 : decode cX7_scene 211 = .ok (.iinc 4 1, 3) := by decide +kernel
theorem dX7_scene_214 : decode cX7_scene 214 = .ok (.goto (-30), 3) := by decide +kernel
theorem dX7_scene_217 : decode cX7_scene 217 = .ok (.iload_n 1, 1) := by decide +kernel
theorem dX7_scene_218 : decode cX7_scene 218 = .ok (.ireturn, 1) := by decide +kernel
theorem dX7_hall_0 : decode cX7_hall 0 = .ok (.iload_n 1, 1) := by decide +kernel
theorem dX7_hall_1 : decode cX7_hall 1 = .ok (.i2l, 1) := by decide +kernel
theorem dX7_hall_2 : decode cX7_hall 2 = .ok (.lconst 0, 1) := by decide +kernel
theorem dX7_hall_3 : decode cX7_hall 3 = .ok (.ldc2_w 235, 3) := by decide +kernel
theorem dX7_hall_6 : decode cX7_hall 6 = .ok (.invokestatic 152, 3) := by decide +kernel
theorem dX7_hall_9 : decode cX7_hall 9 = .ok (.ifCond .ne 6, 3) := by decide +kernel
theorem dX7_hall_12 : decode cX7_hall 12 = .ok (.bipush (-2), 2) := by decide +kernel
theorem dX7_hall_14 : decode cX7_hall 14 = .ok (.ireturn, 1) := by decide +kernel
theorem dX7_hall_15 : decode cX7_hall 15 = .ok (.aload_n 0, 1) := by decide +kernel
theorem dX7_hall_16 : decode cX7_hall 16 = .ok (.getfield 61, 3) := by decide +kernel
theorem dX7_hall_19 : decode cX7_hall 19 = .ok (.istore_n 2, 1) := by decide +kernel
theorem dX7_hall_20 : decode cX7_hall 20 = .ok (.aload_n 0, 1) := by decide +kernel
theorem dX7_hall_21 : decode cX7_hall 21 = .ok (.iload_n 1, 1) := by decide +kernel
theorem dX7_hall_22 : decode cX7_hall 22 = .ok (.putfield 61, 3) := by decide +kernel
theorem dX7_hall_25 : decode cX7_hall 25 = .ok (.iload_n 2, 1) := by decide +kernel
theorem dX7_hall_26 : decode cX7_hall 26 = .ok (.ireturn, 1) := by decide +kernel
theorem dX7_behind_0 : decode cX7_behind 0 = .ok (.iconst 0, 1) := by decide +kernel
theorem dX7_behind_1 : decode cX7_behind 1 = .ok (.istore_n 3, 1) := by decide +kernel
theorem dX7_behind_2 : decode cX7_behind 2 = .ok (.iload_n 2, 1) := by decide +kernel
theorem dX7_behind_3 : decode cX7_behind 3 = .ok (.istore 4, 2) := by decide +kernel
theorem dX7_behind_5 : decode cX7_behind 5 = .ok (.aload_n 0, 1) := by decide +kernel
theorem dX7_behind_6 : decode cX7_behind 6 = .ok (.getfield 49, 3) := by decide +kernel
theorem dX7_behind_9 : decode cX7_behind 9 = .ok (.bipush 60, 2) := by decide +kernel
theorem dX7_behind_11 : decode cX7_behind 11 = .ok (.iload_n 1, 1) := by decide +kernel
theorem dX7_behind_12 : decode cX7_behind 12 = .ok (.imul, 1) := by decide +kernel
theorem dX7_behind_13 : decode cX7_behind 13 = .ok (.iload 4, 2) := by decide +kernel
theorem dX7_behind_15 : decode cX7_behind 15 = .ok (.iadd, 1) := by decide +kernel
theorem dX7_behind_16 : decode cX7_behind 16 = .ok (.iaload, 1) := by decide +kernel
theorem dX7_behind_17 : decode cX7_behind 17 = .ok (.istore 5, 2) := by decide +kernel
theorem dX7_behind_19 : decode cX7_behind 19 = .ok (.iload 5, 2) := by decide +kernel
theorem dX7_behind_21 : decode cX7_behind 21 = .ok (.bipush 91, 2) := by decide +kernel
theorem dX7_behind_23 : decode cX7_behind 23 = .ok (.if_icmp .eq 17, 3) := by decide +kernel
theorem dX7_behind_26 : decode cX7_behind 26 = .ok (.iload 5, 2) := by decide +kernel
theorem dX7_behind_28 : decode cX7_behind 28 = .ok (.bipush 123, 2) := by decide +kernel
theorem dX7_behind_30 : decode cX7_behind 30 = .ok (.if_icmp .eq 10, 3) := by decide +kernel
theorem dX7_behind_33 : decode cX7_behind 33 = .ok (.iload 5, 2) := by decide +kernel
theorem dX7_behind_35 : decode cX7_behind 35 = .ok (.bipush 40, 2) := by decide +kernel
theorem dX7_behind_37 : decode cX7_behind 37 = .ok (.if_icmp .ne 6, 3) := by decide +kernel
theorem dX7_behind_40 : decode cX7_behind 40 = .ok (.iinc 3 1, 3) := by decide +kernel
theorem dX7_behind_43 : decode cX7_behind 43 = .ok (.iload 5, 2) := by decide +kernel
theorem dX7_behind_45 : decode cX7_behind 45 = .ok (.bipush 124, 2) := by decide +kernel
theorem dX7_behind_47 : decode cX7_behind 47 = .ok (.if_icmp .ne 11, 3) := by decide +kernel
theorem dX7_behind_50 : decode cX7_behind 50 = .ok (.iload_n 3, 1) := by decide +kernel
theorem dX7_behind_51 : decode cX7_behind 51 = .ok (.iconst 1, 1) := by decide +kernel
theorem dX7_behind_52 : decode cX7_behind 52 = .ok (.if_icmp .ne 6, 3) := by decide +kernel
theorem dX7_behind_55 : decode cX7_behind 55 = .ok (.iload 4, 2) := by decide +kernel
theorem dX7_behind_57 : decode cX7_behind 57 = .ok (.ireturn, 1) := by decide +kernel
theorem dX7_behind_58 : decode cX7_behind 58 = .ok (.iload 5, 2) := by decide +kernel
theorem dX7_behind_60 : decode cX7_behind 60 = .ok (.bipush 93, 2) := by decide +kernel
theorem dX7_behind_62 : decode cX7_behind 62 = .ok (.if_icmp .eq 17, 3) := by decide +kernel
theorem dX7_behind_65 : decode cX7_behind 65 = .ok (.iload 5, 2) := by decide +kernel
theorem dX7_behind_67 : decode cX7_behind 67 = .ok (.bipush 125, 2) := by decide +kernel
theorem dX7_behind_69 : decode cX7_behind 69 = .ok (.if_icmp .eq 10, 3) := by decide +kernel
theorem dX7_behind_72 : decode cX7_behind 72 = .ok (.iload 5, 2) := by decide +kernel
theorem dX7_behind_74 : decode cX7_behind 74 = .ok (.bipush 41, 2) := by decide +kernel
theorem dX7_behind_76 : decode cX7_behind 76 = .ok (.if_icmp .ne 13, 3) := by decide +kernel
theorem dX7_behind_79 : decode cX7_behind 79 = .ok (.iinc 3 (-1), 3) := by decide +kernel
theorem dX7_behind_82 : decode cX7_behind 82 = .ok (.iload_n 3, 1) := by decide +kernel
theorem dX7_behind_83 : decode cX7_behind 83 = .ok (.ifCond .ne 6, 3) := by decide +kernel
theorem dX7_behind_86 : decode cX7_behind 86 = .ok (.iload 4, 2) := by decide +kernel
theorem dX7_behind_88 : decode cX7_behind 88 = .ok (.ireturn, 1) := by decide +kernel
theorem dX7_behind_89 : decode cX7_behind 89 = .ok (.iinc 4 1, 3) := by decide +kernel
theorem dX7_behind_92 : decode cX7_behind 92 = .ok (.goto (-87), 3) := by decide +kernel
theorem dX7_endFrom_0 : decode cX7_endFrom 0 = .ok (.iconst 1, 1) := by decide +kernel
theorem dX7_endFrom_1 : decode cX7_endFrom 1 = .ok (.istore_n 3, 1) := by decide +kernel
theorem dX7_endFrom_2 : decode cX7_endFrom 2 = .ok (.iload_n 2, 1) := by decide +kernel
theorem dX7_endFrom_3 : decode cX7_endFrom 3 = .ok (.iconst 1, 1) := by decide +kernel
theorem dX7_endFrom_4 : decode cX7_endFrom 4 = .ok (.iadd, 1) := by decide +kernel
theorem dX7_endFrom_5 : decode cX7_endFrom 5 = .ok (.istore 4, 2) := by decide +kernel
theorem dX7_endFrom_7 : decode cX7_endFrom 7 = .ok (.aload_n 0, 1) := by decide +kernel
theorem dX7_endFrom_8 : decode cX7_endFrom 8 = .ok (.getfield 49, 3) := by decide +kernel
theorem dX7_endFrom_11 : decode cX7_endFrom 11 = .ok (.bipush 60, 2) := by decide +kernel
theorem dX7_endFrom_13 : decode cX7_endFrom 13 = .ok (.iload_n 1, 1) := by decide +kernel
theorem dX7_endFrom_14 : decode cX7_endFrom 14 = .ok (.imul, 1) := by decide +kernel
theorem dX7_endFrom_15 : decode cX7_endFrom 15 = .ok (.iload 4, 2) := by decide +kernel
theorem dX7_endFrom_17 : decode cX7_endFrom 17 = .ok (.iadd, 1) := by decide +kernel
theorem dX7_endFrom_18 : decode cX7_endFrom 18 = .ok (.iaload, 1) := by decide +kernel
theorem dX7_endFrom_19 : decode cX7_endFrom 19 = .ok (.istore 5, 2) := by decide +kernel
theorem dX7_endFrom_21 : decode cX7_endFrom 21 = .ok (.iload 5, 2) := by decide +kernel
theorem dX7_endFrom_23 : decode cX7_endFrom 23 = .ok (.bipush 91, 2) := by decide +kernel
theorem dX7_endFrom_25 : decode cX7_endFrom 25 = .ok (.if_icmp .eq 17, 3) := by decide +kernel
theorem dX7_endFrom_28 : decode cX7_endFrom 28 = .ok (.iload 5, 2) := by decide +kernel
theorem dX7_endFrom_30 : decode cX7_endFrom 30 = .ok (.bipush 123, 2) := by decide +kernel
theorem dX7_endFrom_32 : decode cX7_endFrom 32 = .ok (.if_icmp .eq 10, 3) := by decide +kernel
theorem dX7_endFrom_35 : decode cX7_endFrom 35 = .ok (.iload 5, 2) := by decide +kernel
theorem dX7_endFrom_37 : decode cX7_endFrom 37 = .ok (.bipush 40, 2) := by decide +kernel
theorem dX7_endFrom_39 : decode cX7_endFrom 39 = .ok (.if_icmp .ne 6, 3) := by decide +kernel
theorem dX7_endFrom_42 : decode cX7_endFrom 42 = .ok (.iinc 3 1, 3) := by decide +kernel
theorem dX7_endFrom_45 : decode cX7_endFrom 45 = .ok (.iload 5, 2) := by decide +kernel
theorem dX7_endFrom_47 : decode cX7_endFrom 47 = .ok (.bipush 93, 2) := by decide +kernel
theorem dX7_endFrom_49 : decode cX7_endFrom 49 = .ok (.if_icmp .eq 17, 3) := by decide +kernel
theorem dX7_endFrom_52 : decode cX7_endFrom 52 = .ok (.iload 5, 2) := by decide +kernel
theorem dX7_endFrom_54 : decode cX7_endFrom 54 = .ok (.bipush 125, 2) := by decide +kernel
theorem dX7_endFrom_56 : decode cX7_endFrom 56 = .ok (.if_icmp .eq 10, 3) := by decide +kernel
theorem dX7_endFrom_59 : decode cX7_endFrom 59 = .ok (.iload 5, 2) := by decide +kernel
theorem dX7_endFrom_61 : decode cX7_endFrom 61 = .ok (.bipush 41, 2) := by decide +kernel
theorem dX7_endFrom_63 : decode cX7_endFrom 63 = .ok (.if_icmp .ne 6, 3) := by decide +kernel
theorem dX7_endFrom_66 : decode cX7_endFrom 66 = .ok (.iinc 3 (-1), 3) := by decide +kernel
theorem dX7_endFrom_69 : decode cX7_endFrom 69 = .ok (.iload_n 3, 1) := by decide +kernel
theorem dX7_endFrom_70 : decode cX7_endFrom 70 = .ok (.ifCond .ne 6, 3) := by decide +kernel
theorem dX7_endFrom_73 : decode cX7_endFrom 73 = .ok (.iload 4, 2) := by decide +kernel
theorem dX7_endFrom_75 : decode cX7_endFrom 75 = .ok (.ireturn, 1) := by decide +kernel
theorem dX7_endFrom_76 : decode cX7_endFrom 76 = .ok (.iinc 4 1, 3) := by decide +kernel
theorem dX7_endFrom_79 : decode cX7_endFrom 79 = .ok (.goto (-72), 3) := by decide +kernel
theorem dX7_chooses_0 : decode cX7_chooses 0 = .ok (.aload_n 0, 1) := by decide +kernel
theorem dX7_chooses_1 : decode cX7_chooses 1 = .ok (.getfield 237, 3) := by decide +kernel
theorem dX7_chooses_4 : decode cX7_chooses 4 = .ok (.iload_n 1, 1) := by decide +kernel
theorem dX7_chooses_5 : decode cX7_chooses 5 = .ok (.i2l, 1) := by decide +kernel
theorem dX7_chooses_6 : decode cX7_chooses 6 = .ok (.lrem, 1) := by decide +kernel
theorem dX7_chooses_7 : decode cX7_chooses 7 = .ok (.l2i, 1) := by decide +kernel
theorem dX7_chooses_8 : decode cX7_chooses 8 = .ok (.istore_n 2, 1) := by decide +kernel
theorem dX7_chooses_9 : decode cX7_chooses 9 = .ok (.aload_n 0, 1) := by decide +kernel
theorem dX7_chooses_10 : decode cX7_chooses 10 = .ok (.dup, 1) := by decide +kernel
theorem dX7_chooses_11 : decode cX7_chooses 11 = .ok (.getfield 237, 3) := by decide +kernel
theorem dX7_chooses_14 : decode cX7_chooses 14 = .ok (.iload_n 1, 1) := by decide +kernel
theorem dX7_chooses_15 : decode cX7_chooses 15 = .ok (.i2l, 1) := by decide +kernel
theorem dX7_chooses_16 : decode cX7_chooses 16 = .ok (.ldiv, 1) := by decide +kernel
theorem dX7_chooses_17 : decode cX7_chooses 17 = .ok (.putfield 237, 3) := by decide +kernel
theorem dX7_chooses_20 : decode cX7_chooses 20 = .ok (.iload_n 2, 1) := by decide +kernel
theorem dX7_chooses_21 : decode cX7_chooses 21 = .ok (.ireturn, 1) := by decide +kernel
theorem dX7_linesOf_0 : decode cX7_linesOf 0 = .ok (.iconst 0, 1) := by decide +kernel
theorem dX7_linesOf_1 : decode cX7_linesOf 1 = .ok (.istore_n 2, 1) := by decide +kernel
theorem dX7_linesOf_2 : decode cX7_linesOf 2 = .ok (.iconst 0, 1) := by decide +kernel
theorem dX7_linesOf_3 : decode cX7_linesOf 3 = .ok (.istore_n 3, 1) := by decide +kernel
theorem dX7_linesOf_4 : decode cX7_linesOf 4 = .ok (.iload_n 3, 1) := by decide +kernel
theorem dX7_linesOf_5 : decode cX7_linesOf 5 = .ok (.aload_n 0, 1) := by decide +kernel
theorem dX7_linesOf_6 : decode cX7_linesOf 6 = .ok (.getfield 147, 3) := by decide +kernel
theorem dX7_linesOf_9 : decode cX7_linesOf 9 = .ok (.if_icmp .ge 36, 3) := by decide +kernel
theorem dX7_linesOf_12 : decode cX7_linesOf 12 = .ok (.iload_n 2, 1) := by decide +kernel
theorem dX7_linesOf_13 : decode cX7_linesOf 13 = .ok (.aload_n 0, 1) := by decide +kernel
theorem dX7_linesOf_14 : decode cX7_linesOf 14 = .ok (.getfield 126, 3) := by decide +kernel
theorem dX7_linesOf_17 : decode cX7_linesOf 17 = .ok (.iload_n 3, 1) := by decide +kernel
theorem dX7_linesOf_18 : decode cX7_linesOf 18 = .ok (.baload, 1) := by decide +kernel
theorem dX7_linesOf_19 : decode cX7_linesOf 19 = .ok (.ifCond .eq 17, 3) := by decide +kernel
theorem dX7_linesOf_22 : decode cX7_linesOf 22 = .ok (.aload_n 0, 1) := by decide +kernel
theorem dX7_linesOf_23 : decode cX7_linesOf 23 = .ok (.getfield 31, 3) := by decide +kernel
theorem dX7_linesOf_26 : decode cX7_linesOf 26 = .ok (.iload_n 3, 1) := by decide +kernel
theorem dX7_linesOf_27 : decode cX7_linesOf 27 = .ok (.iaload, 1) := by decide +kernel
theorem dX7_linesOf_28 : decode cX7_linesOf 28 = .ok (.iload_n 1, 1) := by decide +kernel
theorem dX7_linesOf_29 : decode cX7_linesOf 29 = .ok (.if_icmp .ne 7, 3) := by decide +kernel
theorem dX7_linesOf_32 : decode cX7_linesOf 32 = .ok (.iconst 1, 1) := by decide +kernel
theorem dX7_linesOf_33 : decode cX7_linesOf 33 = .ok (.goto 4, 3) := by decide +kernel
theorem dX7_linesOf_36 : decode cX7_linesOf 36 = .ok (.iconst 0, 1) := by decide +kernel
theorem dX7_linesOf_37 : decode cX7_linesOf 37 = .ok (.iadd, 1) := by decide +kernel
theorem dX7_linesOf_38 : decode cX7_linesOf 38 = .ok (.istore_n 2, 1) := by decide +kernel
theorem dX7_linesOf_39 : decode cX7_linesOf 39 = .ok (.iinc 3 1, 3) := by decide +kernel
theorem dX7_linesOf_42 : decode cX7_linesOf 42 = .ok (.goto (-38), 3) := by decide +kernel
theorem dX7_linesOf_45 : decode cX7_linesOf 45 = .ok (.iload_n 2, 1) := by decide +kernel
theorem dX7_linesOf_46 : decode cX7_linesOf 46 = .ok (.ireturn, 1) := by decide +kernel
theorem dX7_lineOf_0 : decode cX7_lineOf 0 = .ok (.iload_n 2, 1) := by decide +kernel
theorem dX7_lineOf_1 : decode cX7_lineOf 1 = .ok (.istore_n 3, 1) := by decide +kernel
theorem dX7_lineOf_2 : decode cX7_lineOf 2 = .ok (.iconst 0, 1) := by decide +kernel
theorem dX7_lineOf_3 : decode cX7_lineOf 3 = .ok (.istore 4, 2) := by decide +kernel
theorem dX7_lineOf_5 : decode cX7_lineOf 5 = .ok (.aload_n 0, 1) := by decide +kernel
theorem dX7_lineOf_6 : decode cX7_lineOf 6 = .ok (.getfield 126, 3) := by decide +kernel
theorem dX7_lineOf_9 : decode cX7_lineOf 9 = .ok (.iload 4, 2) := by decide +kernel
theorem dX7_lineOf_11 : decode cX7_lineOf 11 = .ok (.baload, 1) := by decide +kernel
theorem dX7_lineOf_12 : decode cX7_lineOf 12 = .ok (.ifCond .eq 18, 3) := by decide +kernel
theorem dX7_lineOf_15 : decode cX7_lineOf 15 = .ok (.aload_n 0, 1) := by decide +kernel
theorem dX7_lineOf_16 : decode cX7_lineOf 16 = .ok (.getfield 31, 3) := by decide +kernel
theorem dX7_lineOf_19 : decode cX7_lineOf 19 = .ok (.iload 4, 2) := by decide +kernel
theorem dX7_lineOf_21 : decode cX7_lineOf 21 = .ok (.iaload, 1) := by decide +kernel
theorem dX7_lineOf_22 : decode cX7_lineOf 22 = .ok (.iload_n 1, 1) := by decide +kernel
theorem dX7_lineOf_23 : decode cX7_lineOf 23 = .ok (.if_icmp .ne 7, 3) := by decide +kernel
theorem dX7_lineOf_26 : decode cX7_lineOf 26 = .ok (.iload_n 3, 1) := by decide +kernel
theorem dX7_lineOf_27 : decode cX7_lineOf 27 = .ok (.ifCond .le 38, 3) := by decide +kernel
theorem dX7_lineOf_30 : decode cX7_lineOf 30 = .ok (.iload_n 3, 1) := by decide +kernel
theorem dX7_lineOf_31 : decode cX7_lineOf 31 = .ok (.aload_n 0, 1) := by decide +kernel
theorem dX7_lineOf_32 : decode cX7_lineOf 32 = .ok (.getfield 126, 3) := by decide +kernel
theorem dX7_lineOf_35 : decode cX7_lineOf 35 = .ok (.iload 4, 2) := by decide +kernel
theorem dX7_lineOf_37 : decode cX7_lineOf 37 = .ok (.baload, 1) := by decide +kernel
theorem dX7_lineOf_38 : decode cX7_lineOf 38 = .ok (.ifCond .eq 18, 3) := by decide +kernel
theorem dX7_lineOf_41 : decode cX7_lineOf 41 = .ok (.aload_n 0, 1) := by decide +kernel
theorem dX7_lineOf_42 : decode cX7_lineOf 42 = .ok (.getfield 31, 3) := by decide +kernel
theorem dX7_lineOf_45 : decode cX7_lineOf 45 = .ok (.iload 4, 2) := by decide +kernel
theorem dX7_lineOf_47 : decode cX7_lineOf 47 = .ok (.iaload, 1) := by decide +kernel
theorem dX7_lineOf_48 : decode cX7_lineOf 48 = .ok (.iload_n 1, 1) := by decide +kernel
theorem dX7_lineOf_49 : decode cX7_lineOf 49 = .ok (.if_icmp .ne 7, 3) := by decide +kernel
theorem dX7_lineOf_52 : decode cX7_lineOf 52 = .ok (.iconst 1, 1) := by decide +kernel
theorem dX7_lineOf_53 : decode cX7_lineOf 53 = .ok (.goto 4, 3) := by decide +kernel
theorem dX7_lineOf_56 : decode cX7_lineOf 56 = .ok (.iconst 0, 1) := by decide +kernel
theorem dX7_lineOf_57 : decode cX7_lineOf 57 = .ok (.isub, 1) := by decide +kernel
theorem dX7_lineOf_58 : decode cX7_lineOf 58 = .ok (.istore_n 3, 1) := by decide +kernel
theorem dX7_lineOf_59 : decode cX7_lineOf 59 = .ok (.iinc 4 1, 3) := by decide +kernel
theorem dX7_lineOf_62 : decode cX7_lineOf 62 = .ok (.goto (-57), 3) := by decide +kernel
theorem dX7_lineOf_65 : decode cX7_lineOf 65 = .ok (.iload 4, 2) := by decide +kernel
theorem dX7_lineOf_67 : decode cX7_lineOf 67 = .ok (.ireturn, 1) := by decide +kernel
theorem dX7_sings_0 : decode cX7_sings 0 = .ok (.iconst 0, 1) := by decide +kernel
theorem dX7_sings_1 : decode cX7_sings 1 = .ok (.istore_n 2, 1) := by decide +kernel
theorem dX7_sings_2 : decode cX7_sings 2 = .ok (.iconst 0, 1) := by decide +kernel
theorem dX7_sings_3 : decode cX7_sings 3 = .ok (.istore_n 3, 1) := by decide +kernel
theorem dX7_sings_4 : decode cX7_sings 4 = .ok (.iconst 0, 1) := by decide +kernel
theorem dX7_sings_5 : decode cX7_sings 5 = .ok (.istore 4, 2) := by decide +kernel
theorem dX7_sings_7 : decode cX7_sings 7 = .ok (.aload_n 0, 1) := by decide +kernel
theorem dX7_sings_8 : decode cX7_sings 8 = .ok (.getfield 65, 3) := by decide +kernel
theorem dX7_sings_11 : decode cX7_sings 11 = .ok (.iconst 0, 1) := by decide +kernel
theorem dX7_sings_12 : decode cX7_sings 12 = .ok (.iload_n 1, 1) := by decide +kernel
theorem dX7_sings_13 : decode cX7_sings 13 = .ok (.iastore, 1) := by decide +kernel
theorem dX7_sings_14 : decode cX7_sings 14 = .ok (.aload_n 0, 1) := by decide +kernel
theorem dX7_sings_15 : decode cX7_sings 15 = .ok (.getfield 68, 3) := by decide +kernel
theorem dX7_sings_18 : decode cX7_sings 18 = .ok (.iconst 0, 1) := by decide +kernel
theorem dX7_sings_19 : decode cX7_sings 19 = .ok (.iconst 0, 1) := by decide +kernel
theorem dX7_sings_20 : decode cX7_sings 20 = .ok (.iastore, 1) := by decide +kernel
theorem dX7_sings_21 : decode cX7_sings 21 = .ok (.aload_n 0, 1) := by decide +kernel
theorem dX7_sings_22 : decode cX7_sings 22 = .ok (.iconst 0, 1) := by decide +kernel
theorem dX7_sings_23 : decode cX7_sings 23 = .ok (.putfield 241, 3) := by decide +kernel
theorem dX7_sings_26 : decode cX7_sings 26 = .ok (.iload_n 2, 1) := by decide +kernel
theorem dX7_sings_27 : decode cX7_sings 27 = .ok (.ifCond .lt 407, 3) := by decide +kernel
theorem dX7_sings_30 : decode cX7_sings 30 = .ok (.aload_n 0, 1) := by decide +kernel
theorem dX7_sings_31 : decode cX7_sings 31 = .ok (.getfield 65, 3) := by decide +kernel
theorem dX7_sings_34 : decode cX7_sings 34 = .ok (.iload_n 2, 1) := by decide +kernel
theorem dX7_sings_35 : decode cX7_sings 35 = .ok (.iaload, 1) := by decide +kernel
theorem dX7_sings_36 : decode cX7_sings 36 = .ok (.istore 5, 2) := by decide +kernel
theorem dX7_sings_38 : decode cX7_sings 38 = .ok (.aload_n 0, 1) := by decide +kernel
theorem dX7_sings_39 : decode cX7_sings 39 = .ok (.getfield 68, 3) := by decide +kernel
theorem dX7_sings_42 : decode cX7_sings 42 = .ok (.iload_n 2, 1) := by decide +kernel
theorem dX7_sings_43 : decode cX7_sings 43 = .ok (.iaload, 1) := by decide +kernel
theorem dX7_sings_44 : decode cX7_sings 44 = .ok (.istore 6, 2) := by decide +kernel
theorem dX7_sings_46 : decode cX7_sings 46 = .ok (.iload 6, 2) := by decide +kernel
theorem dX7_sings_48 : decode cX7_sings 48 = .ok (.aload_n 0, 1) := by decide +kernel
theorem dX7_sings_49 : decode cX7_sings 49 = .ok (.getfield 52, 3) := by decide +kernel
theorem dX7_sings_52 : decode cX7_sings 52 = .ok (.iload 5, 2) := by decide +kernel
theorem dX7_sings_54 : decode cX7_sings 54 = .ok (.iaload, 1) := by decide +kernel
theorem dX7_sings_55 : decode cX7_sings 55 = .ok (.if_icmp .ne 9, 3) := by decide +kernel
theorem dX7_sings_58 : decode cX7_sings 58 = .ok (.iinc 2 (-1), 3) := by decide +kernel
theorem dX7_sings_61 : decode cX7_sings 61 = .ok (.goto (-35), 3) := by decide +kernel
theorem dX7_sings_64 : decode cX7_sings 64 = .ok (.aload_n 0, 1) := by decide +kernel
theorem dX7_sings_65 : decode cX7_sings 65 = .ok (.getfield 49, 3) := by decide +kernel
theorem dX7_sings_68 : decode cX7_sings 68 = .ok (.bipush 60, 2) := by decide +kernel
theorem dX7_sings_70 : decode cX7_sings 70 = .ok (.iload 5, 2) := by decide +kernel
theorem dX7_sings_72 : decode cX7_sings 72 = .ok (.imul, 1) := by decide +kernel
theorem dX7_sings_73 : decode cX7_sings 73 = .ok (.iload 6, 2) := by decide +kernel
theorem dX7_sings_75 : decode cX7_sings 75 = .ok (.iadd, 1) := by decide +kernel
theorem dX7_sings_76 : decode cX7_sings 76 = .ok (.iaload, 1) := by decide +kernel
theorem dX7_sings_77 : decode cX7_sings 77 = .ok (.istore 7, 2) := by decide +kernel
theorem dX7_sings_79 : decode cX7_sings 79 = .ok (.aload_n 0, 1) := by decide +kernel
theorem dX7_sings_80 : decode cX7_sings 80 = .ok (.getfield 68, 3) := by decide +kernel
theorem dX7_sings_83 : decode cX7_sings 83 = .ok (.iload_n 2, 1) := by decide +kernel
theorem dX7_sings_84 : decode cX7_sings 84 = .ok (.dup2, 1) := by decide +kernel
theorem dX7_sings_85 : decode cX7_sings 85 = .ok (.iaload, 1) := by decide +kernel
theorem dX7_sings_86 : decode cX7_sings 86 = .ok (.iconst 1, 1) := by decide +kernel
theorem dX7_sings_87 : decode cX7_sings 87 = .ok (.iadd, 1) := by decide +kernel
theorem dX7_sings_88 : decode cX7_sings 88 = .ok (.iastore, 1) := by decide +kernel
theorem dX7_sings_89 : decode cX7_sings 89 = .ok (.iload 7, 2) := by decide +kernel
theorem dX7_sings_91 : decode cX7_sings 91 = .ok (.bipush 93, 2) := by decide +kernel
theorem dX7_sings_93 : decode cX7_sings 93 = .ok (.if_icmp .eq (-67), 3) := by decide +kernel
theorem dX7_sings_96 : decode cX7_sings 96 = .ok (.iload 7, 2) := by decide +kernel
theorem dX7_sings_98 : decode cX7_sings 98 = .ok (.bipush 41, 2) := by decide +kernel
theorem dX7_sings_100 : decode cX7_sings 100 = .ok (.if_icmp .ne 6, 3) := by decide +kernel
theorem dX7_sings_103 : decode cX7_sings 103 = .ok (.goto (-77), 3) := by decide +kernel
theorem dX7_sings_106 : decode cX7_sings 106 = .ok (.iload 7, 2) := by decide +kernel
theorem dX7_sings_108 : decode cX7_sings 108 = .ok (.bipush 124, 2) := by decide +kernel
theorem dX7_sings_110 : decode cX7_sings 110 = .ok (.if_icmp .ne 22, 3) := by decide +kernel
theorem dX7_sings_113 : decode cX7_sings 113 = .ok (.aload_n 0, 1) := by decide +kernel
theorem dX7_sings_114 : decode cX7_sings 114 = .ok (.getfield 68, 3) := by decide +kernel
theorem dX7_sings_117 : decode cX7_sings 117 = .ok (.iload_n 2, 1) := by decide +kernel
theorem dX7_sings_118 : decode cX7_sings 118 = .ok (.aload_n 0, 1) := by decide +kernel
theorem dX7_sings_119 : decode cX7_sings 119 = .ok (.iload 5, 2) := by decide +kernel
theorem dX7_sings_121 : decode cX7_sings 121 = .ok (.iload 6, 2) := by decide +kernel
theorem dX7_sings_123 : decode cX7_sings 123 = .ok (.invokevirtual 244, 3) := by decide +kernel
theorem dX7_sings_126 : decode cX7_sings 126 = .ok (.iconst 1, 1) := by decide +kernel
theorem dX7_sings_127 : decode cX7_sings 127 = .ok (.iadd, 1) := by decide +kernel
theorem dX7_sings_128 : decode cX7_sings 128 = .ok (.iastore, 1) := by decide +kernel
theorem dX7_sings_129 : decode cX7_sings 129 = .ok (.goto (-103), 3) := by decide +kernel
theorem dX7_sings_132 : decode cX7_sings 132 = .ok (.iload 7, 2) := by decide +kernel
theorem dX7_sings_134 : decode cX7_sings 134 = .ok (.bipush 125, 2) := by decide +kernel
theorem dX7_sings_136 : decode cX7_sings 136 = .ok (.if_icmp .ne 52, 3) := by decide +kernel
theorem dX7_sings_139 : decode cX7_sings 139 = .ok (.aload_n 0, 1) := by decide +kernel
theorem dX7_sings_140 : decode cX7_sings 140 = .ok (.getfield 71, 3) := by decide +kernel
theorem dX7_sings_143 : decode cX7_sings 143 = .ok (.iload 4, 2) := by decide +kernel
theorem dX7_sings_145 : decode cX7_sings 145 = .ok (.iconst 1, 1) := by decide +kernel
theorem dX7_sings_146 : decode cX7_sings 146 = .ok (.isub, 1) := by decide +kernel
theorem dX7_sings_147 : decode cX7_sings 147 = .ok (.dup2, 1) := by decide +kernel
theorem dX7_sings_148 : decode cX7_sings 148 = .ok (.iaload, 1) := by decide +kernel
theorem dX7_sings_149 : decode cX7_sings 149 = .ok (.iconst 1, 1) := by decide +kernel
theorem dX7_sings_150 : decode cX7_sings 150 = .ok (.isub, 1) := by decide +kernel
theorem dX7_sings_151 : decode cX7_sings 151 = .ok (.iastore, 1) := by decide +kernel
theorem dX7_sings_152 : decode cX7_sings 152 = .ok (.aload_n 0, 1) := by decide +kernel
theorem dX7_sings_153 : decode cX7_sings 153 = .ok (.getfield 71, 3) := by decide +kernel
theorem dX7_sings_156 : decode cX7_sings 156 = .ok (.iload 4, 2) := by decide +kernel
theorem dX7_sings_158 : decode cX7_sings 158 = .ok (.iconst 1, 1) := by decide +kernel
theorem dX7_sings_159 : decode cX7_sings 159 = .ok (.isub, 1) := by decide +kernel
theorem dX7_sings_160 : decode cX7_sings 160 = .ok (.iaload, 1) := by decide +kernel
theorem dX7_sings_161 : decode cX7_sings 161 = .ok (.ifCond .le 21, 3) := by decide +kernel
theorem dX7_sings_164 : decode cX7_sings 164 = .ok (.aload_n 0, 1) := by decide +kernel
theorem dX7_sings_165 : decode cX7_sings 165 = .ok (.getfield 68, 3) := by decide +kernel
theorem dX7_sings_168 : decode cX7_sings 168 = .ok (.iload_n 2, 1) := by decide +kernel
theorem dX7_sings_169 : decode cX7_sings 169 = .ok (.aload_n 0, 1) := by decide +kernel
theorem dX7_sings_170 : decode cX7_sings 170 = .ok (.getfield 74, 3) := by decide +kernel
theorem dX7_sings_173 : decode cX7_sings 173 = .ok (.iload 4, 2) := by decide +kernel
theorem dX7_sings_175 : decode cX7_sings 175 = .ok (.iconst 1, 1) := by decide +kernel
theorem dX7_sings_176 : decode cX7_sings 176 = .ok (.isub, 1) := by decide +kernel
theorem dX7_sings_177 : decode cX7_sings 177 = .ok (.iaload, 1) := by decide +kernel
theorem dX7_sings_178 : decode cX7_sings 178 = .ok (.iastore, 1) := by decide +kernel
theorem dX7_sings_179 : decode cX7_sings 179 = .ok (.goto (-153), 3) := by decide +kernel
theorem dX7_sings_182 : decode cX7_sings 182 = .ok (.iinc 4 (-1), 3) := by decide +kernel
theorem dX7_sings_185 : decode cX7_sings 185 = .ok (.goto (-159), 3) := by decide +kernel
theorem dX7_sings_188 : decode cX7_sings 188 = .ok (.iinc 3 1, 3) := by decide +kernel
theorem dX7_sings_191 : decode cX7_sings 191 = .ok (.iload_n 3, 1) := by decide +kernel
theorem dX7_sings_192 : decode cX7_sings 192 = .ok (.sipush 2000, 3) := by decide +kernel
theorem dX7_sings_195 : decode cX7_sings 195 = .ok (.if_icmp .le 5, 3) := by decide +kernel
theorem dX7_sings_198 : decode cX7_sings 198 = .ok (.iconst 0, 1) := by decide +kernel
theorem dX7_sings_199 : decode cX7_sings 199 = .ok (.ireturn, 1) := by decide +kernel
theorem dX7_sings_200 : decode cX7_sings 200 = .ok (.iload 7, 2) := by decide +kernel
theorem dX7_sings_202 : decode cX7_sings 202 = .ok (.bipush 91, 2) := by decide +kernel
theorem dX7_sings_204 : decode cX7_sings 204 = .ok (.if_icmp .ne 30, 3) := by decide +kernel
theorem dX7_sings_207 : decode cX7_sings 207 = .ok (.aload_n 0, 1) := by decide +kernel
theorem dX7_sings_208 : decode cX7_sings 208 = .ok (.iconst 2, 1) := by decide +kernel
theorem dX7_sings_209 : decode cX7_sings 209 = .ok (.invokevirtual 247, 3) := by decide +kernel
theorem dX7_sings_212 : decode cX7_sings 212 = .ok (.ifCond .ne 219, 3) := by decide +kernel
theorem dX7_sings_215 : decode cX7_sings 215 = .ok (.aload_n 0, 1) := by decide +kernel
theorem dX7_sings_216 : decode cX7_sings 216 = .ok (.getfield 68, 3) := by decide +kernel
theorem dX7_sings_219 : decode cX7_sings 219 = .ok (.iload_n 2, 1) := by decide +kernel
theorem dX7_sings_220 : decode cX7_sings 220 = .ok (.aload_n 0, 1) := by decide +kernel
theorem dX7_sings_221 : decode cX7_sings 221 = .ok (.iload 5, 2) := by decide +kernel
theorem dX7_sings_223 : decode cX7_sings 223 = .ok (.iload 6, 2) := by decide +kernel
theorem dX7_sings_225 : decode cX7_sings 225 = .ok (.invokevirtual 251, 3) := by decide +kernel
theorem dX7_sings_228 : decode cX7_sings 228 = .ok (.iconst 1, 1) := by decide +kernel
theorem dX7_sings_229 : decode cX7_sings 229 = .ok (.iadd, 1) := by decide +kernel
theorem dX7_sings_230 : decode cX7_sings 230 = .ok (.iastore, 1) := by decide +kernel
theorem dX7_sings_231 : decode cX7_sings 231 = .ok (.goto 200, 3) := by decide +kernel
theorem dX7_sings_234 : decode cX7_sings 234 = .ok (.iload 7, 2) := by decide +kernel
theorem dX7_sings_236 : decode cX7_sings 236 = .ok (.bipush 40, 2) := by decide +kernel
theorem dX7_sings_238 : decode cX7_sings 238 = .ok (.if_icmp .ne 31, 3) := by decide +kernel
theorem dX7_sings_241 : decode cX7_sings 241 = .ok (.aload_n 0, 1) := by decide +kernel
theorem dX7_sings_242 : decode cX7_sings 242 = .ok (.iconst 2, 1) := by decide +kernel
theorem dX7_sings_243 : decode cX7_sings 243 = .ok (.invokevirtual 247, 3) := by decide +kernel
theorem dX7_sings_246 : decode cX7_sings 246 = .ok (.iconst 1, 1) := by decide +kernel
theorem dX7_sings_247 : decode cX7_sings 247 = .ok (.if_icmp .ne 184, 3) := by decide +kernel
theorem dX7_sings_250 : decode cX7_sings 250 = .ok (.aload_n 0, 1) := by decide +kernel
theorem dX7_sings_251 : decode cX7_sings 251 = .ok (.getfield 68, 3) := by decide +kernel
theorem dX7_sings_254 : decode cX7_sings 254 = .ok (.iload_n 2, 1) := by decide +kernel
theorem dX7_sings_255 : decode cX7_sings 255 = .ok (.aload_n 0, 1) := by decide +kernel
theorem dX7_sings_256 : decode cX7_sings 256 = .ok (.iload 5, 2) := by decide +kernel
theorem dX7_sings_258 : decode cX7_sings 258 = .ok (.iload 6, 2) := by decide +kernel
theorem dX7_sings_260 : decode cX7_sings 260 = .ok (.invokevirtual 251, 3) := by decide +kernel
theorem dX7_sings_263 : decode cX7_sings 263 = .ok (.iconst 1, 1) := by decide +kernel
theorem dX7_sings_264 : decode cX7_sings 264 = .ok (.iadd, 1) := by decide +kernel
theorem dX7_sings_265 : decode cX7_sings 265 = .ok (.iastore, 1) := by decide +kernel
theorem dX7_sings_266 : decode cX7_sings 266 = .ok (.goto 165, 3) := by decide +kernel
theorem dX7_sings_269 : decode cX7_sings 269 = .ok (.iload 7, 2) := by decide +kernel
theorem dX7_sings_271 : decode cX7_sings 271 = .ok (.bipush 123, 2) := by decide +kernel
theorem dX7_sings_273 : decode cX7_sings 273 = .ok (.if_icmp .ne 65, 3) := by decide +kernel
theorem dX7_sings_276 : decode cX7_sings 276 = .ok (.aload_n 0, 1) := by decide +kernel
theorem dX7_sings_277 : decode cX7_sings 277 = .ok (.aload_n 0, 1) := by decide +kernel
theorem dX7_sings_278 : decode cX7_sings 278 = .ok (.getfield 61, 3) := by decide +kernel
theorem dX7_sings_281 : decode cX7_sings 281 = .ok (.iconst 1, 1) := by decide +kernel
theorem dX7_sings_282 : decode cX7_sings 282 = .ok (.iadd, 1) := by decide +kernel
theorem dX7_sings_283 : decode cX7_sings 283 = .ok (.invokevirtual 247, 3) := by decide +kernel
theorem dX7_sings_286 : decode cX7_sings 286 = .ok (.istore 8, 2) := by decide +kernel
theorem dX7_sings_288 : decode cX7_sings 288 = .ok (.iload 8, 2) := by decide +kernel
theorem dX7_sings_290 : decode cX7_sings 290 = .ok (.ifCond .ne 22, 3) := by decide +kernel
theorem dX7_sings_293 : decode cX7_sings 293 = .ok (.aload_n 0, 1) := by decide +kernel
theorem dX7_sings_294 : decode cX7_sings 294 = .ok (.getfield 68, 3) := by decide +kernel
theorem dX7_sings_297 : decode cX7_sings 297 = .ok (.iload_n 2, 1) := by decide +kernel
theorem dX7_sings_298 : decode cX7_sings 298 = .ok (.aload_n 0, 1) := by decide +kernel
theorem dX7_sings_299 : decode cX7_sings 299 = .ok (.iload 5, 2) := by decide +kernel
theorem dX7_sings_301 : decode cX7_sings 301 = .ok (.iload 6, 2) := by decide +kernel
theorem dX7_sings_303 : decode cX7_sings 303 = .ok (.invokevirtual 251, 3) := by decide +kernel
theorem dX7_sings_306 : decode cX7_sings 306 = .ok (.iconst 1, 1) := by decide +kernel
theorem dX7_sings_307 : decode cX7_sings 307 = .ok (.iadd, 1) := by decide +kernel
theorem dX7_sings_308 : decode cX7_sings 308 = .ok (.iastore, 1) := by decide +kernel
theorem dX7_sings_309 : decode cX7_sings 309 = .ok (.goto 26, 3) := by decide +kernel
theorem dX7_sings_312 : decode cX7_sings 312 = .ok (.aload_n 0, 1) := by decide +kernel
theorem dX7_sings_313 : decode cX7_sings 313 = .ok (.getfield 71, 3) := by decide +kernel
theorem dX7_sings_316 : decode cX7_sings 316 = .ok (.iload 4, 2) := by decide +kernel
theorem dX7_sings_318 : decode cX7_sings 318 = .ok (.iload 8, 2) := by decide +kernel
theorem dX7_sings_320 : decode cX7_sings 320 = .ok (.iastore, 1) := by decide +kernel
theorem dX7_sings_321 : decode cX7_sings 321 = .ok (.aload_n 0, 1) := by decide +kernel
theorem dX7_sings_322 : decode cX7_sings 322 = .ok (.getfield 74, 3) := by decide +kernel
theorem dX7_sings_325 : decode cX7_sings 325 = .ok (.iload 4, 2) := by decide +kernel
theorem dX7_sings_327 : decode cX7_sings 327 = .ok (.iload 6, 2) := by decide +kernel
theorem dX7_sings_329 : decode cX7_sings 329 = .ok (.iconst 1, 1) := by decide +kernel
theorem dX7_sings_330 : decode cX7_sings 330 = .ok (.iadd, 1) := by decide +kernel
theorem dX7_sings_331 : decode cX7_sings 331 = .ok (.iastore, 1) := by decide +kernel
theorem dX7_sings_332 : decode cX7_sings 332 = .ok (.iinc 4 1, 3) := by decide +kernel
theorem dX7_sings_335 : decode cX7_sings 335 = .ok (.goto 96, 3) := by decide +kernel
theorem dX7_sings_338 : decode cX7_sings 338 = .ok (.iload 7, 2) := by decide +kernel
theorem dX7_sings_340 : decode cX7_sings 340 = .ok (.invokestatic 217, 3) := by decide +kernel
theorem dX7_sings_343 : decode cX7_sings 343 = .ok (.ifCond .eq 27, 3) := by decide +kernel
theorem dX7_sings_346 : decode cX7_sings 346 = .ok (.iinc 2 1, 3) := by decide +kernel
theorem dX7_sings_349 : decode cX7_sings 349 = .ok (.aload_n 0, 1) := by decide +kernel
theorem dX7_sings_350 : decode cX7_sings 350 = .ok (.getfield 65, 3) := by decide +kernel
theorem dX7_sings_353 : decode cX7_sings 353 = .ok (.iload_n 2, 1) := by decide +kernel
theorem dX7_sings_354 : decode cX7_sings 354 = .ok (.iload 7, 2) := by decide +kernel
theorem dX7_sings_356 : decode cX7_sings 356 = .ok (.bipush 65, 2) := by decide +kernel
theorem dX7_sings_358 : decode cX7_sings 358 = .ok (.isub, 1) := by decide +kernel
theorem dX7_sings_359 : decode cX7_sings 359 = .ok (.iastore, 1) := by decide +kernel
theorem dX7_sings_360 : decode cX7_sings 360 = .ok (.aload_n 0, 1) := by decide +kernel
theorem dX7_sings_361 : decode cX7_sings 361 = .ok (.getfield 68, 3) := by decide +kernel
theorem dX7_sings_364 : decode cX7_sings 364 = .ok (.iload_n 2, 1) := by decide +kernel
theorem dX7_sings_365 : decode cX7_sings 365 = .ok (.iconst 0, 1) := by decide +kernel
theorem dX7_sings_366 : decode cX7_sings 366 = .ok (.iastore, 1) := by decide +kernel
theorem dX7_sings_367 : decode cX7_sings 367 = .ok (.goto 64, 3) := by decide +kernel
theorem dX7_sings_370 : decode cX7_sings 370 = .ok (.aload_n 0, 1) := by decide +kernel
theorem dX7_sings_371 : decode cX7_sings 371 = .ok (.iload 7, 2) := by decide +kernel
theorem dX7_sings_373 : decode cX7_sings 373 = .ok (.bipush 97, 2) := by decide +kernel
theorem dX7_sings_375 : decode cX7_sings 375 = .ok (.isub, 1) := by decide +kernel
theorem dX7_sings_376 : decode cX7_sings 376 = .ok (.invokevirtual 254, 3) := by decide +kernel
theorem dX7_sings_379 : decode cX7_sings 379 = .ok (.istore 8, 2) := by decide +kernel
theorem dX7_sings_381 : decode cX7_sings 381 = .ok (.iload 8, 2) := by decide +kernel
theorem dX7_sings_383 : decode cX7_sings 383 = .ok (.ifCond .eq 12, 3) := by decide +kernel
theorem dX7_sings_386 : decode cX7_sings 386 = .ok (.aload_n 0, 1) := by decide +kernel
theorem dX7_sings_387 : decode cX7_sings 387 = .ok (.getfield 241, 3) := by decide +kernel
theorem dX7_sings_390 : decode cX7_sings 390 = .ok (.bipush 40, 2) := by decide +kernel
theorem dX7_sings_392 : decode cX7_sings 392 = .ok (.if_icmp .ne 5, 3) := by decide +kernel
theorem dX7_sings_395 : decode cX7_sings 395 = .ok (.iconst 0, 1) := by decide +kernel
theorem dX7_sings_396 : decode cX7_sings 396 = .ok (.ireturn, 1) := by decide +kernel
theorem dX7_sings_397 : decode cX7_sings 397 = .ok (.aload_n 0, 1) := by decide +kernel
theorem dX7_sings_398 : decode cX7_sings 398 = .ok (.getfield 80, 3) := by decide +kernel
theorem dX7_sings_401 : decode cX7_sings 401 = .ok (.aload_n 0, 1) := by decide +kernel
theorem dX7_sings_402 : decode cX7_sings 402 = .ok (.getfield 241, 3) := by decide +kernel
theorem dX7_sings_405 : decode cX7_sings 405 = .ok (.aload_n 0, 1) := by decide +kernel
theorem dX7_sings_406 : decode cX7_sings 406 = .ok (.iload 7, 2) := by decide +kernel
theorem dX7_sings_408 : decode cX7_sings 408 = .ok (.bipush 97, 2) := by decide +kernel
theorem dX7_sings_410 : decode cX7_sings 410 = .ok (.isub, 1) := by decide +kernel
theorem dX7_sings_411 : decode cX7_sings 411 = .ok (.aload_n 0, 1) := by decide +kernel
theorem dX7_sings_412 : decode cX7_sings 412 = .ok (.iload 8, 2) := by decide +kernel
theorem dX7_sings_414 : decode cX7_sings 414 = .ok (.invokevirtual 247, 3) := by decide +kernel
theorem dX7_sings_417 : decode cX7_sings 417 = .ok (.invokevirtual 257, 3) := by decide +kernel
theorem dX7_sings_420 : decode cX7_sings 420 = .ok (.iastore, 1) := by decide +kernel
theorem dX7_sings_421 : decode cX7_sings 421 = .ok (.aload_n 0, 1) := by decide +kernel
theorem dX7_sings_422 : decode cX7_sings 422 = .ok (.dup, 1) := by decide +kernel
theorem dX7_sings_423 : decode cX7_sings 423 = .ok (.getfield 241, 3) := by decide +kernel
theorem dX7_sings_426 : decode cX7_sings 426 = .ok (.iconst 1, 1) := by decide +kernel
theorem dX7_sings_427 : decode cX7_sings 427 = .ok (.iadd, 1) := by decide +kernel
theorem dX7_sings_428 : decode cX7_sings 428 = .ok (.putfield 241, 3) := by decide +kernel
theorem dX7_sings_431 : decode cX7_sings 431 = .ok (.goto (-405), 3) := by decide +kernel
theorem dX7_sings_434 : decode cX7_sings 434 = .ok (.iconst 1, 1) := by decide +kernel
theorem dX7_sings_435 : decode cX7_sings 435 = .ok (.ireturn, 1) := by decide +kernel
theorem dX7_sing_0 : decode cX7_sing 0 = .ok (.aload_n 0, 1) := by decide +kernel
theorem dX7_sing_1 : decode cX7_sing 1 = .ok (.iload_n 1, 1) := by decide +kernel
theorem dX7_sing_2 : decode cX7_sing 2 = .ok (.invokevirtual 220, 3) := by decide +kernel
theorem dX7_sing_5 : decode cX7_sing 5 = .ok (.ifCond .eq 11, 3) := by decide +kernel
theorem dX7_sing_8 : decode cX7_sing 8 = .ok (.aload_n 0, 1) := by decide +kernel
theorem dX7_sing_9 : decode cX7_sing 9 = .ok (.iload_n 2, 1) := by decide +kernel
theorem dX7_sing_10 : decode cX7_sing 10 = .ok (.invokevirtual 260, 3) := by decide +kernel
theorem dX7_sing_13 : decode cX7_sing 13 = .ok (.ifCond .ne 5, 3) := by decide +kernel
theorem dX7_sing_16 : decode cX7_sing 16 = .ok (.iconst (-1), 1) := by decide +kernel
theorem dX7_sing_17 : decode cX7_sing 17 = .ok (.ireturn, 1) := by decide +kernel
theorem dX7_sing_18 : decode cX7_sing 18 = .ok (.iload_n 3, 1) := by decide +kernel
theorem dX7_sing_19 : decode cX7_sing 19 = .ok (.invokestatic 263, 3) := by decide +kernel
theorem dX7_sing_22 : decode cX7_sing 22 = .ok (.ifCond .eq 10, 3) := by decide +kernel
theorem dX7_sing_25 : decode cX7_sing 25 = .ok (.lload 4, 2) := by decide +kernel
theorem dX7_sing_27 : decode cX7_sing 27 = .ok (.lconst 0, 1) := by decide +kernel
theorem dX7_sing_28 : decode cX7_sing 28 = .ok (.lcmp, 1) := by decide +kernel
theorem dX7_sing_29 : decode cX7_sing 29 = .ok (.ifCond .ge 6, 3) := by decide +kernel
theorem dX7_sing_32 : decode cX7_sing 32 = .ok (.bipush (-2), 2) := by decide +kernel
theorem dX7_sing_34 : decode cX7_sing 34 = .ok (.ireturn, 1) := by decide +kernel
theorem dX7_sing_35 : decode cX7_sing 35 = .ok (.aload_n 0, 1) := by decide +kernel
theorem dX7_sing_36 : decode cX7_sing 36 = .ok (.iload_n 2, 1) := by decide +kernel
theorem dX7_sing_37 : decode cX7_sing 37 = .ok (.iload_n 3, 1) := by decide +kernel
theorem dX7_sing_38 : decode cX7_sing 38 = .ok (.aload_n 0, 1) := by decide +kernel
theorem dX7_sing_39 : decode cX7_sing 39 = .ok (.getfield 266, 3) := by decide +kernel
theorem dX7_sing_42 : decode cX7_sing 42 = .ok (.invokevirtual 269, 3) := by decide +kernel
theorem dX7_sing_45 : decode cX7_sing 45 = .ok (.aload_n 0, 1) := by decide +kernel
theorem dX7_sing_46 : decode cX7_sing 46 = .ok (.lload 4, 2) := by decide +kernel
theorem dX7_sing_48 : decode cX7_sing 48 = .ok (.putfield 237, 3) := by decide +kernel
theorem dX7_sing_51 : decode cX7_sing 51 = .ok (.aload_n 0, 1) := by decide +kernel
theorem dX7_sing_52 : decode cX7_sing 52 = .ok (.iload_n 1, 1) := by decide +kernel
theorem dX7_sing_53 : decode cX7_sing 53 = .ok (.invokevirtual 273, 3) := by decide +kernel
theorem dX7_sing_56 : decode cX7_sing 56 = .ok (.ifCond .ne 6, 3) := by decide +kernel
theorem dX7_sing_59 : decode cX7_sing 59 = .ok (.bipush (-3), 2) := by decide +kernel
theorem dX7_sing_61 : decode cX7_sing 61 = .ok (.ireturn, 1) := by decide +kernel
theorem dX7_sing_62 : decode cX7_sing 62 = .ok (.aload_n 0, 1) := by decide +kernel
theorem dX7_sing_63 : decode cX7_sing 63 = .ok (.aload_n 0, 1) := by decide +kernel
theorem dX7_sing_64 : decode cX7_sing 64 = .ok (.getfield 241, 3) := by decide +kernel
theorem dX7_sing_67 : decode cX7_sing 67 = .ok (.putfield 276, 3) := by decide +kernel
theorem dX7_sing_70 : decode cX7_sing 70 = .ok (.iconst 0, 1) := by decide +kernel
theorem dX7_sing_71 : decode cX7_sing 71 = .ok (.istore 6, 2) := by decide +kernel
theorem dX7_sing_73 : decode cX7_sing 73 = .ok (.iload 6, 2) := by decide +kernel
theorem dX7_sing_75 : decode cX7_sing 75 = .ok (.aload_n 0, 1) := by decide +kernel
theorem dX7_sing_76 : decode cX7_sing 76 = .ok (.getfield 241, 3) := by decide +kernel
theorem dX7_sing_79 : decode cX7_sing 79 = .ok (.if_icmp .ge 23, 3) := by decide +kernel
theorem dX7_sing_82 : decode cX7_sing 82 = .ok (.aload_n 0, 1) := by decide +kernel
theorem dX7_sing_83 : decode cX7_sing 83 = .ok (.getfield 77, 3) := by decide +kernel
theorem dX7_sing_86 : decode cX7_sing 86 = .ok (.iload 6, 2) := by decide +kernel
theorem dX7_sing_88 : decode cX7_sing 88 = .ok (.aload_n 0, 1) := by decide +kernel
theorem dX7_sing_89 : decode cX7_sing 89 = .ok (.getfield 80, 3) := by decide +kernel
theorem dX7_sing_92 : decode cX7_sing 92 = .ok (.iload 6, 2) := by decide +kernel
theorem dX7_sing_94 : decode cX7_sing 94 = .ok (.iaload, 1) := by decide +kernel
theorem dX7_sing_95 : decode cX7_sing 95 = .ok (.iastore, 1) := by decide +kernel
theorem dX7_sing_96 : decode cX7_sing 96 = .ok (.iinc 6 1, 3) := by decide +kernel
theorem dX7_sing_99 : decode cX7_sing 99 = .ok (.goto (-26), 3) := by decide +kernel
theorem dX7_sing_102 : decode cX7_sing 102 = .ok (.aload_n 0, 1) := by decide +kernel
theorem dX7_sing_103 : decode cX7_sing 103 = .ok (.getfield 276, 3) := by decide +kernel
theorem dX7_sing_106 : decode cX7_sing 106 = .ok (.ireturn, 1) := by decide +kernel
theorem dX7_sung_0 : decode cX7_sung 0 = .ok (.iload_n 1, 1) := by decide +kernel
theorem dX7_sung_1 : decode cX7_sung 1 = .ok (.i2l, 1) := by decide +kernel
theorem dX7_sung_2 : decode cX7_sung 2 = .ok (.lconst 0, 1) := by decide +kernel
theorem dX7_sung_3 : decode cX7_sung 3 = .ok (.aload_n 0, 1) := by decide +kernel
theorem dX7_sung_4 : decode cX7_sung 4 = .ok (.getfield 276, 3) := by decide +kernel
theorem dX7_sung_7 : decode cX7_sung 7 = .ok (.iconst 1, 1) := by decide +kernel
theorem dX7_sung_8 : decode cX7_sung 8 = .ok (.isub, 1) := by decide +kernel
theorem dX7_sung_9 : decode cX7_sung 9 = .ok (.i2l, 1) := by decide +kernel
theorem dX7_sung_10 : decode cX7_sung 10 = .ok (.invokestatic 152, 3) := by decide +kernel
theorem dX7_sung_13 : decode cX7_sung 13 = .ok (.ifCond .eq 12, 3) := by decide +kernel
theorem dX7_sung_16 : decode cX7_sung 16 = .ok (.aload_n 0, 1) := by decide +kernel
theorem dX7_sung_17 : decode cX7_sung 17 = .ok (.getfield 77, 3) := by decide +kernel
theorem dX7_sung_20 : decode cX7_sung 20 = .ok (.iload_n 1, 1) := by decide +kernel
theorem dX7_sung_21 : decode cX7_sung 21 = .ok (.iaload, 1) := by decide +kernel
theorem dX7_sung_22 : decode cX7_sung 22 = .ok (.goto 4, 3) := by decide +kernel
theorem dX7_sung_25 : decode cX7_sung 25 = .ok (.iconst (-1), 1) := by decide +kernel
theorem dX7_sung_26 : decode cX7_sung 26 = .ok (.ireturn, 1) := by decide +kernel
theorem dX7_least_0 : decode cX7_least 0 = .ok (.lload_n 0, 1) := by decide +kernel
theorem dX7_least_1 : decode cX7_least 1 = .ok (.ldc2_w 279, 3) := by decide +kernel
theorem dX7_least_4 : decode cX7_least 4 = .ok (.lcmp, 1) := by decide +kernel
theorem dX7_least_5 : decode cX7_least 5 = .ok (.ifCond .le 9, 3) := by decide +kernel
theorem dX7_least_8 : decode cX7_least 8 = .ok (.ldc_w 281, 3) := by decide +kernel
theorem dX7_least_11 : decode cX7_least 11 = .ok (.goto 5, 3) := by decide +kernel
theorem dX7_least_14 : decode cX7_least 14 = .ok (.lload_n 0, 1) := by decide +kernel
theorem dX7_least_15 : decode cX7_least 15 = .ok (.l2i, 1) := by decide +kernel
theorem dX7_least_16 : decode cX7_least 16 = .ok (.ireturn, 1) := by decide +kernel
theorem dX7_times_0 : decode cX7_times 0 = .ok (.iconst 0, 1) := by decide +kernel
theorem dX7_times_1 : decode cX7_times 1 = .ok (.istore_n 3, 1) := by decide +kernel
theorem dX7_times_2 : decode cX7_times 2 = .ok (.iload_n 3, 1) := by decide +kernel
theorem dX7_times_3 : decode cX7_times 3 = .ok (.aload_n 0, 1) := by decide +kernel
theorem dX7_times_4 : decode cX7_times 4 = .ok (.getfield 282, 3) := by decide +kernel
theorem dX7_times_7 : decode cX7_times 7 = .ok (.if_icmp .gt 95, 3) := by decide +kernel
theorem dX7_times_10 : decode cX7_times 10 = .ok (.iconst 0, 1) := by decide +kernel
theorem dX7_times_11 : decode cX7_times 11 = .ok (.istore 4, 2) := by decide +kernel
theorem dX7_times_13 : decode cX7_times 13 = .ok (.iload 4, 2) := by decide +kernel
theorem dX7_times_15 : decode cX7_times 15 = .ok (.aload_n 0, 1) := by decide +kernel
theorem dX7_times_16 : decode cX7_times 16 = .ok (.getfield 282, 3) := by decide +kernel
theorem dX7_times_19 : decode cX7_times 19 = .ok (.if_icmp .gt 77, 3) := by decide +kernel
theorem dX7_times_22 : decode cX7_times 22 = .ok (.lconst 0, 1) := by decide +kernel
theorem dX7_times_23 : decode cX7_times 23 = .ok (.lstore 5, 2) := by decide +kernel
theorem dX7_times_25 : decode cX7_times 25 = .ok (.iload_n 3, 1) := by decide +kernel
theorem dX7_times_26 : decode cX7_times 26 = .ok (.istore 7, 2) := by decide +kernel
theorem dX7_times_28 : decode cX7_times 28 = .ok (.iload 7, 2) := by decide +kernel
theorem dX7_times_30 : decode cX7_times 30 = .ok (.iload 4, 2) := by decide +kernel
theorem dX7_times_32 : decode cX7_times 32 = .ok (.if_icmp .gt 41, 3) := by decide +kernel
theorem dX7_times_35 : decode cX7_times 35 = .ok (.lload 5, 2) := by decide +kernel
theorem dX7_times_37 : decode cX7_times 37 = .ok (.aload_n 0, 1) := by decide +kernel
theorem dX7_times_38 : decode cX7_times 38 = .ok (.getfield 98, 3) := by decide +kernel
theorem dX7_times_41 : decode cX7_times 41 = .ok (.bipush 25, 2) := by decide +kernel
theorem dX7_times_43 : decode cX7_times 43 = .ok (.iload_n 3, 1) := by decide +kernel
theorem dX7_times_44 : decode cX7_times 44 = .ok (.imul, 1) := by decide +kernel
theorem dX7_times_45 : decode cX7_times 45 = .ok (.iload 7, 2) := by decide +kernel
theorem dX7_times_47 : decode cX7_times 47 = .ok (.iadd, 1) := by decide +kernel
theorem dX7_times_48 : decode cX7_times 48 = .ok (.iaload, 1) := by decide +kernel
theorem dX7_times_49 : decode cX7_times 49 = .ok (.i2l, 1) := by decide +kernel
theorem dX7_times_50 : decode cX7_times 50 = .ok (.aload_n 1, 1) := by decide +kernel
theorem dX7_times_51 : decode cX7_times 51 = .ok (.iload_n 2, 1) := by decide +kernel
theorem dX7_times_52 : decode cX7_times 52 = .ok (.bipush 25, 2) := by decide +kernel
theorem dX7_times_54 : decode cX7_times 54 = .ok (.iload 7, 2) := by decide +kernel
theorem dX7_times_56 : decode cX7_times 56 = .ok (.imul, 1) := by decide +kernel
theorem dX7_times_57 : decode cX7_times 57 = .ok (.iadd, 1) := by decide +kernel
theorem dX7_times_58 : decode cX7_times 58 = .ok (.iload 4, 2) := by decide +kernel
theorem dX7_times_60 : decode cX7_times 60 = .ok (.iadd, 1) := by decide +kernel
theorem dX7_times_61 : decode cX7_times 61 = .ok (.iaload, 1) := by decide +kernel
theorem dX7_times_62 : decode cX7_times 62 = .ok (.i2l, 1) := by decide +kernel
theorem dX7_times_63 : decode cX7_times 63 = .ok (.lmul, 1) := by decide +kernel
theorem dX7_times_64 : decode cX7_times 64 = .ok (.ladd, 1) := by decide +kernel
theorem dX7_times_65 : decode cX7_times 65 = .ok (.lstore 5, 2) := by decide +kernel
theorem dX7_times_67 : decode cX7_times 67 = .ok (.iinc 7 1, 3) := by decide +kernel
theorem dX7_times_70 : decode cX7_times 70 = .ok (.goto (-42), 3) := by decide +kernel
theorem dX7_times_73 : decode cX7_times 73 = .ok (.aload_n 0, 1) := by decide +kernel
theorem dX7_times_74 : decode cX7_times 74 = .ok (.getfield 92, 3) := by decide +kernel
theorem dX7_times_77 : decode cX7_times 77 = .ok (.bipush 25, 2) := by decide +kernel
theorem dX7_times_79 : decode cX7_times 79 = .ok (.iload_n 3, 1) := by decide +kernel
theorem dX7_times_80 : decode cX7_times 80 = .ok (.imul, 1) := by decide +kernel
theorem dX7_times_81 : decode cX7_times 81 = .ok (.iload 4, 2) := by decide +kernel
theorem dX7_times_83 : decode cX7_times 83 = .ok (.iadd, 1) := by decide +kernel
theorem dX7_times_84 : decode cX7_times 84 = .ok (.lload 5, 2) := by decide +kernel
theorem dX7_times_86 : decode cX7_times 86 = .ok (.invokestatic 285, 3) := by decide +kernel
theorem dX7_times_89 : decode cX7_times 89 = .ok (.iastore, 1) := by decide +kernel
theorem dX7_times_90 : decode cX7_times 90 = .ok (.iinc 4 1, 3) := by decide +kernel
theorem dX7_times_93 : decode cX7_times 93 = .ok (.goto (-80), 3) := by decide +kernel
theorem dX7_times_96 : decode cX7_times 96 = .ok (.iinc 3 1, 3) := by decide +kernel
theorem dX7_times_99 : decode cX7_times 99 = .ok (.goto (-97), 3) := by decide +kernel
theorem dX7_times_102 : decode cX7_times 102 = .ok (.iconst 0, 1) := by decide +kernel
theorem dX7_times_103 : decode cX7_times 103 = .ok (.istore_n 3, 1) := by decide +kernel
theorem dX7_times_104 : decode cX7_times 104 = .ok (.iload_n 3, 1) := by decide +kernel
theorem dX7_times_105 : decode cX7_times 105 = .ok (.sipush 625, 3) := by decide +kernel
theorem dX7_times_108 : decode cX7_times 108 = .ok (.if_icmp .ge 21, 3) := by decide +kernel
theorem dX7_times_111 : decode cX7_times 111 = .ok (.aload_n 0, 1) := by decide +kernel
theorem dX7_times_112 : decode cX7_times 112 = .ok (.getfield 98, 3) := by decide +kernel
theorem dX7_times_115 : decode cX7_times 115 = .ok (.iload_n 3, 1) := by decide +kernel
theorem dX7_times_116 : decode cX7_times 116 = .ok (.aload_n 0, 1) := by decide +kernel
theorem dX7_times_117 : decode cX7_times 117 = .ok (.getfield 92, 3) := by decide +kernel
theorem dX7_times_120 : decode cX7_times 120 = .ok (.iload_n 3, 1) := by decide +kernel
theorem dX7_times_121 : decode cX7_times 121 = .ok (.iaload, 1) := by decide +kernel
theorem dX7_times_122 : decode cX7_times 122 = .ok (.iastore, 1) := by decide +kernel
theorem dX7_times_123 : decode cX7_times 123 = .ok (.iinc 3 1, 3) := by decide +kernel
theorem dX7_times_126 : decode cX7_times 126 = .ok (.goto (-22), 3) := by decide +kernel
theorem dX7_times_129 : decode cX7_times 129 = .ok (.return_, 1) := by decide +kernel
theorem dX7_begins_0 : decode cX7_begins 0 = .ok (.iconst 0, 1) := by decide +kernel
theorem dX7_begins_1 : decode cX7_begins 1 = .ok (.istore_n 1, 1) := by decide +kernel
theorem dX7_begins_2 : decode cX7_begins 2 = .ok (.iload_n 1, 1) := by decide +kernel
theorem dX7_begins_3 : decode cX7_begins 3 = .ok (.sipush 625, 3) := by decide +kernel
theorem dX7_begins_6 : decode cX7_begins 6 = .ok (.if_icmp .ge 34, 3) := by decide +kernel
theorem dX7_begins_9 : decode cX7_begins 9 = .ok (.aload_n 0, 1) := by decide +kernel
theorem dX7_begins_10 : decode cX7_begins 10 = .ok (.getfield 98, 3) := by decide +kernel
theorem dX7_begins_13 : decode cX7_begins 13 = .ok (.iload_n 1, 1) := by decide +kernel
theorem dX7_begins_14 : decode cX7_begins 14 = .ok (.iload_n 1, 1) := by decide +kernel
theorem dX7_begins_15 : decode cX7_begins 15 = .ok (.bipush 26, 2) := by decide +kernel
theorem dX7_begins_17 : decode cX7_begins 17 = .ok (.irem, 1) := by decide +kernel
theorem dX7_begins_18 : decode cX7_begins 18 = .ok (.ifCond .ne 7, 3) := by decide +kernel
theorem dX7_begins_21 : decode cX7_begins 21 = .ok (.iconst 1, 1) := by decide +kernel
theorem dX7_begins_22 : decode cX7_begins 22 = .ok (.goto 4, 3) := by decide +kernel
theorem dX7_begins_25 : decode cX7_begins 25 = .ok (.iconst 0, 1) := by decide +kernel
theorem dX7_begins_26 : decode cX7_begins 26 = .ok (.iastore, 1) := by decide +kernel
theorem dX7_begins_27 : decode cX7_begins 27 = .ok (.aload_n 0, 1) := by decide +kernel
theorem dX7_begins_28 : decode cX7_begins 28 = .ok (.getfield 92, 3) := by decide +kernel
theorem dX7_begins_31 : decode cX7_begins 31 = .ok (.iload_n 1, 1) := by decide +kernel
theorem dX7_begins_32 : decode cX7_begins 32 = .ok (.iconst 0, 1) := by decide +kernel
theorem dX7_begins_33 : decode cX7_begins 33 = .ok (.iastore, 1) := by decide +kernel
theorem dX7_begins_34 : decode cX7_begins 34 = .ok (.iinc 1 1, 3) := by decide +kernel
theorem dX7_begins_37 : decode cX7_begins 37 = .ok (.goto (-35), 3) := by decide +kernel
theorem dX7_begins_40 : decode cX7_begins 40 = .ok (.return_, 1) := by decide +kernel
theorem dX7_takesSlot_0 : decode cX7_takesSlot 0 = .ok (.iconst 0, 1) := by decide +kernel
theorem dX7_takesSlot_1 : decode cX7_takesSlot 1 = .ok (.istore_n 2, 1) := by decide +kernel
theorem dX7_takesSlot_2 : decode cX7_takesSlot 2 = .ok (.iload_n 2, 1) := by decide +kernel
theorem dX7_takesSlot_3 : decode cX7_takesSlot 3 = .ok (.aload_n 0, 1) := by decide +kernel
theorem dX7_takesSlot_4 : decode cX7_takesSlot 4 = .ok (.getfield 282, 3) := by decide +kernel
theorem dX7_takesSlot_7 : decode cX7_takesSlot 7 = .ok (.if_icmp .gt 72, 3) := by decide +kernel
theorem dX7_takesSlot_10 : decode cX7_takesSlot 10 = .ok (.aload_n 0, 1) := by decide +kernel
theorem dX7_takesSlot_11 : decode cX7_takesSlot 11 = .ok (.getfield 282, 3) := by decide +kernel
theorem dX7_takesSlot_14 : decode cX7_takesSlot 14 = .ok (.istore_n 3, 1) := by decide +kernel
theorem dX7_takesSlot_15 : decode cX7_takesSlot 15 = .ok (.iload_n 3, 1) := by decide +kernel
theorem dX7_takesSlot_16 : decode cX7_takesSlot 16 = .ok (.ifCond .le 47, 3) := by decide +kernel
theorem dX7_takesSlot_19 : decode cX7_takesSlot 19 = .ok (.aload_n 0, 1) := by decide +kernel
theorem dX7_takesSlot_20 : decode cX7_takesSlot 20 = .ok (.getfield 98, 3) := by decide +kernel
theorem dX7_takesSlot_23 : decode cX7_takesSlot 23 = .ok (.bipush 25, 2) := by decide +kernel
theorem dX7_takesSlot_25 : decode cX7_takesSlot 25 = .ok (.iload_n 2, 1) := by decide +kernel
theorem dX7_takesSlot_26 : decode cX7_takesSlot 26 = .ok (.imul, 1) := by decide +kernel
theorem dX7_takesSlot_27 : decode cX7_takesSlot 27 = .ok (.iload_n 3, 1) := by decide +kernel
theorem dX7_takesSlot_28 : decode cX7_takesSlot 28 = .ok (.iadd, 1) := by decide +kernel
theorem dX7_takesSlot_29 : decode cX7_takesSlot 29 = .ok (.aload_n 0, 1) := by decide +kernel
theorem dX7_takesSlot_30 : decode cX7_takesSlot 30 = .ok (.getfield 98, 3) := by decide +kernel
theorem dX7_takesSlot_33 : decode cX7_takesSlot 33 = .ok (.bipush 25, 2) := by decide +kernel
theorem dX7_takesSlot_35 : decode cX7_takesSlot 35 = .ok (.iload_n 2, 1) := by decide +kernel
theorem dX7_takesSlot_36 : decode cX7_takesSlot 36 = .ok (.imul, 1) := by decide +kernel
theorem dX7_takesSlot_37 : decode cX7_takesSlot 37 = .ok (.iload_n 3, 1) := by decide +kernel
theorem dX7_takesSlot_38 : decode cX7_takesSlot 38 = .ok (.iadd, 1) := by decide +kernel
theorem dX7_takesSlot_39 : decode cX7_takesSlot 39 = .ok (.iconst 1, 1) := by decide +kernel
theorem dX7_takesSlot_40 : decode cX7_takesSlot 40 = .ok (.isub, 1) := by decide +kernel
theorem dX7_takesSlot_41 : decode cX7_takesSlot 41 = .ok (.iaload, 1) := by decide +kernel
theorem dX7_takesSlot_42 : decode cX7_takesSlot 42 = .ok (.i2l, 1) := by decide +kernel
theorem dX7_takesSlot_43 : decode cX7_takesSlot 43 = .ok (.aload_n 0, 1) := by decide +kernel
theorem dX7_takesSlot_44 : decode cX7_takesSlot 44 = .ok (.iload_n 3, 1) := by decide +kernel
theorem dX7_takesSlot_45 : decode cX7_takesSlot 45 = .ok (.iconst 1, 1) := by decide +kernel
theorem dX7_takesSlot_46 : decode cX7_takesSlot 46 = .ok (.isub, 1) := by decide +kernel
theorem dX7_takesSlot_47 : decode cX7_takesSlot 47 = .ok (.iload_n 1, 1) := by decide +kernel
theorem dX7_takesSlot_48 : decode cX7_takesSlot 48 = .ok (.invokevirtual 289, 3) := by decide +kernel
theorem dX7_takesSlot_51 : decode cX7_takesSlot 51 = .ok (.i2l, 1) := by decide +kernel
theorem dX7_takesSlot_52 : decode cX7_takesSlot 52 = .ok (.lmul, 1) := by decide +kernel
theorem dX7_takesSlot_53 : decode cX7_takesSlot 53 = .ok (.invokestatic 285, 3) := by decide +kernel
theorem dX7_takesSlot_56 : decode cX7_takesSlot 56 = .ok (.iastore, 1) := by decide +kernel
theorem dX7_takesSlot_57 : decode cX7_takesSlot 57 = .ok (.iinc 3 (-1), 3) := by decide +kernel
theorem dX7_takesSlot_60 : decode cX7_takesSlot 60 = .ok (.goto (-45), 3) := by decide +kernel
theorem dX7_takesSlot_63 : decode cX7_takesSlot 63 = .ok (.aload_n 0, 1) := by decide +kernel
theorem dX7_takesSlot_64 : decode cX7_takesSlot 64 = .ok (.getfield 98, 3) := by decide +kernel
theorem dX7_takesSlot_67 : decode cX7_takesSlot 67 = .ok (.bipush 25, 2) := by decide +kernel
theorem dX7_takesSlot_69 : decode cX7_takesSlot 69 = .ok (.iload_n 2, 1) := by decide +kernel
theorem dX7_takesSlot_70 : decode cX7_takesSlot 70 = .ok (.imul, 1) := by decide +kernel
theorem dX7_takesSlot_71 : decode cX7_takesSlot 71 = .ok (.iconst 0, 1) := by decide +kernel
theorem dX7_takesSlot_72 : decode cX7_takesSlot 72 = .ok (.iastore, 1) := by decide +kernel
theorem dX7_takesSlot_73 : decode cX7_takesSlot 73 = .ok (.iinc 2 1, 3) := by decide +kernel
theorem dX7_takesSlot_76 : decode cX7_takesSlot 76 = .ok (.goto (-74), 3) := by decide +kernel
theorem dX7_takesSlot_79 : decode cX7_takesSlot 79 = .ok (.return_, 1) := by decide +kernel
theorem dX7_waysAt_0 : decode cX7_waysAt 0 = .ok (.aload_n 0, 1) := by decide +kernel
theorem dX7_waysAt_1 : decode cX7_waysAt 1 = .ok (.getfield 104, 3) := by decide +kernel
theorem dX7_waysAt_4 : decode cX7_waysAt 4 = .ok (.iload_n 1, 1) := by decide +kernel
theorem dX7_waysAt_5 : decode cX7_waysAt 5 = .ok (.iaload, 1) := by decide +kernel
theorem dX7_waysAt_6 : decode cX7_waysAt 6 = .ok (.istore_n 3, 1) := by decide +kernel
theorem dX7_waysAt_7 : decode cX7_waysAt 7 = .ok (.iload_n 3, 1) := by decide +kernel
theorem dX7_waysAt_8 : decode cX7_waysAt 8 = .ok (.bipush 40, 2) := by decide +kernel
theorem dX7_waysAt_10 : decode cX7_waysAt 10 = .ok (.if_icmp .ne 9, 3) := by decide +kernel
theorem dX7_waysAt_13 : decode cX7_waysAt 13 = .ok (.aload_n 0, 1) := by decide +kernel
theorem dX7_waysAt_14 : decode cX7_waysAt 14 = .ok (.iload_n 2, 1) := by decide +kernel
theorem dX7_waysAt_15 : decode cX7_waysAt 15 = .ok (.invokevirtual 254, 3) := by decide +kernel
theorem dX7_waysAt_18 : decode cX7_waysAt 18 = .ok (.ireturn, 1) := by decide +kernel
theorem dX7_waysAt_19 : decode cX7_waysAt 19 = .ok (.aload_n 0, 1) := by decide +kernel
theorem dX7_waysAt_20 : decode cX7_waysAt 20 = .ok (.getfield 126, 3) := by decide +kernel
theorem dX7_waysAt_23 : decode cX7_waysAt 23 = .ok (.iload_n 3, 1) := by decide +kernel
theorem dX7_waysAt_24 : decode cX7_waysAt 24 = .ok (.baload, 1) := by decide +kernel
theorem dX7_waysAt_25 : decode cX7_waysAt 25 = .ok (.ifCond .eq 17, 3) := by decide +kernel
theorem dX7_waysAt_28 : decode cX7_waysAt 28 = .ok (.aload_n 0, 1) := by decide +kernel
theorem dX7_waysAt_29 : decode cX7_waysAt 29 = .ok (.getfield 31, 3) := by decide +kernel
theorem dX7_waysAt_32 : decode cX7_waysAt 32 = .ok (.iload_n 3, 1) := by decide +kernel
theorem dX7_waysAt_33 : decode cX7_waysAt 33 = .ok (.iaload, 1) := by decide +kernel
theorem dX7_waysAt_34 : decode cX7_waysAt 34 = .ok (.iload_n 2, 1) := by decide +kernel
theorem dX7_waysAt_35 : decode cX7_waysAt 35 = .ok (.if_icmp .ne 7, 3) := by decide +kernel
theorem dX7_waysAt_38 : decode cX7_waysAt 38 = .ok (.iconst 1, 1) := by decide +kernel
theorem dX7_waysAt_39 : decode cX7_waysAt 39 = .ok (.goto 4, 3) := by decide +kernel
theorem dX7_waysAt_42 : decode cX7_waysAt 42 = .ok (.iconst 0, 1) := by decide +kernel
theorem dX7_waysAt_43 : decode cX7_waysAt 43 = .ok (.ireturn, 1) := by decide +kernel
theorem dX7_closes_0 : decode cX7_closes 0 = .ok (.iconst 0, 1) := by decide +kernel
theorem dX7_closes_1 : decode cX7_closes 1 = .ok (.istore_n 3, 1) := by decide +kernel
theorem dX7_closes_2 : decode cX7_closes 2 = .ok (.iload_n 3, 1) := by decide +kernel
theorem dX7_closes_3 : decode cX7_closes 3 = .ok (.sipush 625, 3) := by decide +kernel
theorem dX7_closes_6 : decode cX7_closes 6 = .ok (.if_icmp .ge 45, 3) := by decide +kernel
theorem dX7_closes_9 : decode cX7_closes 9 = .ok (.aload_n 0, 1) := by decide +kernel
theorem dX7_closes_10 : decode cX7_closes 10 = .ok (.getfield 95, 3) := by decide +kernel
theorem dX7_closes_13 : decode cX7_closes 13 = .ok (.iload_n 3, 1) := by decide +kernel
theorem dX7_closes_14 : decode cX7_closes 14 = .ok (.aload_n 0, 1) := by decide +kernel
theorem dX7_closes_15 : decode cX7_closes 15 = .ok (.getfield 98, 3) := by decide +kernel
theorem dX7_closes_18 : decode cX7_closes 18 = .ok (.iload_n 3, 1) := by decide +kernel
theorem dX7_closes_19 : decode cX7_closes 19 = .ok (.iaload, 1) := by decide +kernel
theorem dX7_closes_20 : decode cX7_closes 20 = .ok (.iastore, 1) := by decide +kernel
theorem dX7_closes_21 : decode cX7_closes 21 = .ok (.aload_n 0, 1) := by decide +kernel
theorem dX7_closes_22 : decode cX7_closes 22 = .ok (.getfield 89, 3) := by decide +kernel
theorem dX7_closes_25 : decode cX7_closes 25 = .ok (.sipush 625, 3) := by decide +kernel
theorem dX7_closes_28 : decode cX7_closes 28 = .ok (.iload_n 2, 1) := by decide +kernel
theorem dX7_closes_29 : decode cX7_closes 29 = .ok (.imul, 1) := by decide +kernel
theorem dX7_closes_30 : decode cX7_closes 30 = .ok (.iload_n 3, 1) := by decide +kernel
theorem dX7_closes_31 : decode cX7_closes 31 = .ok (.iadd, 1) := by decide +kernel
theorem dX7_closes_32 : decode cX7_closes 32 = .ok (.iload_n 3, 1) := by decide +kernel
theorem dX7_closes_33 : decode cX7_closes 33 = .ok (.bipush 26, 2) := by decide +kernel
theorem dX7_closes_35 : decode cX7_closes 35 = .ok (.irem, 1) := by decide +kernel
theorem dX7_closes_36 : decode cX7_closes 36 = .ok (.ifCond .ne 7, 3) := by decide +kernel
theorem dX7_closes_39 : decode cX7_closes 39 = .ok (.iconst 1, 1) := by decide +kernel
theorem dX7_closes_40 : decode cX7_closes 40 = .ok (.goto 4, 3) := by decide +kernel
theorem dX7_closes_43 : decode cX7_closes 43 = .ok (.iconst 0, 1) := by decide +kernel
theorem dX7_closes_44 : decode cX7_closes 44 = .ok (.iastore, 1) := by decide +kernel
theorem dX7_closes_45 : decode cX7_closes 45 = .ok (.iinc 3 1, 3) := by decide +kernel
theorem dX7_closes_48 : decode cX7_closes 48 = .ok (.goto (-46), 3) := by decide +kernel
theorem dX7_closes_51 : decode cX7_closes 51 = .ok (.aload_n 0, 1) := by decide +kernel
theorem dX7_closes_52 : decode cX7_closes 52 = .ok (.invokevirtual 292, 3) := by decide +kernel
theorem dX7_closes_55 : decode cX7_closes 55 = .ok (.iconst 0, 1) := by decide +kernel
theorem dX7_closes_56 : decode cX7_closes 56 = .ok (.istore_n 3, 1) := by decide +kernel
theorem dX7_closes_57 : decode cX7_closes 57 = .ok (.iload_n 3, 1) := by decide +kernel
theorem dX7_closes_58 : decode cX7_closes 58 = .ok (.iload_n 1, 1) := by decide +kernel
theorem dX7_closes_59 : decode cX7_closes 59 = .ok (.if_icmp .ge 74, 3) := by decide +kernel
theorem dX7_closes_62 : decode cX7_closes 62 = .ok (.aload_n 0, 1) := by decide +kernel
theorem dX7_closes_63 : decode cX7_closes 63 = .ok (.aload_n 0, 1) := by decide +kernel
theorem dX7_closes_64 : decode cX7_closes 64 = .ok (.getfield 95, 3) := by decide +kernel
theorem dX7_closes_67 : decode cX7_closes 67 = .ok (.iconst 0, 1) := by decide +kernel
theorem dX7_closes_68 : decode cX7_closes 68 = .ok (.invokevirtual 295, 3) := by decide +kernel
theorem dX7_closes_71 : decode cX7_closes 71 = .ok (.iconst 0, 1) := by decide +kernel
theorem dX7_closes_72 : decode cX7_closes 72 = .ok (.istore 4, 2) := by decide +kernel
theorem dX7_closes_74 : decode cX7_closes 74 = .ok (.iload 4, 2) := by decide +kernel
theorem dX7_closes_76 : decode cX7_closes 76 = .ok (.sipush 625, 3) := by decide +kernel
theorem dX7_closes_79 : decode cX7_closes 79 = .ok (.if_icmp .ge 48, 3) := by decide +kernel
theorem dX7_closes_82 : decode cX7_closes 82 = .ok (.aload_n 0, 1) := by decide +kernel
theorem dX7_closes_83 : decode cX7_closes 83 = .ok (.getfield 89, 3) := by decide +kernel
theorem dX7_closes_86 : decode cX7_closes 86 = .ok (.sipush 625, 3) := by decide +kernel
theorem dX7_closes_89 : decode cX7_closes 89 = .ok (.iload_n 2, 1) := by decide +kernel
theorem dX7_closes_90 : decode cX7_closes 90 = .ok (.imul, 1) := by decide +kernel
theorem dX7_closes_91 : decode cX7_closes 91 = .ok (.iload 4, 2) := by decide +kernel
theorem dX7_closes_93 : decode cX7_closes 93 = .ok (.iadd, 1) := by decide +kernel
theorem dX7_closes_94 : decode cX7_closes 94 = .ok (.aload_n 0, 1) := by decide +kernel
theorem dX7_closes_95 : decode cX7_closes 95 = .ok (.getfield 89, 3) := by decide +kernel
theorem dX7_closes_98 : decode cX7_closes 98 = .ok (.sipush 625, 3) := by decide +kernel
theorem dX7_closes_101 : decode cX7_closes 101 = .ok (.iload_n 2, 1) := by decide +kernel
theorem dX7_closes_102 : decode cX7_closes 102 = .ok (.imul, 1) := by decide +kernel
theorem dX7_closes_103 : decode cX7_closes 103 = .ok (.iload 4, 2) := by decide +kernel
theorem dX7_closes_105 : decode cX7_closes 105 = .ok (.iadd, 1) := by decide +kernel
theorem dX7_closes_106 : decode cX7_closes 106 = .ok (.iaload, 1) := by decide +kernel
theorem dX7_closes_107 : decode cX7_closes 107 = .ok (.i2l, 1) := by decide +kernel
theorem dX7_closes_108 : decode cX7_closes 108 = .ok (.aload_n 0, 1) := by decide +kernel
theorem dX7_closes_109 : decode cX7_closes 109 = .ok (.getfield 98, 3) := by decide +kernel
theorem dX7_closes_112 : decode cX7_closes 112 = .ok (.iload 4, 2) := by decide +kernel
theorem dX7_closes_114 : decode cX7_closes 114 = .ok (.iaload, 1) := by decide +kernel
theorem dX7_closes_115 : decode cX7_closes 115 = .ok (.i2l, 1) := by decide +kernel
theorem dX7_closes_116 : decode cX7_closes 116 = .ok (.ladd, 1) := by decide +kernel
theorem dX7_closes_117 : decode cX7_closes 117 = .ok (.invokestatic 285, 3) := by decide +kernel
theorem dX7_closes_120 : decode cX7_closes 120 = .ok (.iastore, 1) := by decide +kernel
theorem dX7_closes_121 : decode cX7_closes 121 = .ok (.iinc 4 1, 3) := by decide +kernel
theorem dX7_closes_124 : decode cX7_closes 124 = .ok (.goto (-50), 3) := by decide +kernel
theorem dX7_closes_127 : decode cX7_closes 127 = .ok (.iinc 3 1, 3) := by decide +kernel
theorem dX7_closes_130 : decode cX7_closes 130 = .ok (.goto (-73), 3) := by decide +kernel
theorem dX7_closes_133 : decode cX7_closes 133 = .ok (.aload_n 0, 1) := by decide +kernel
theorem dX7_closes_134 : decode cX7_closes 134 = .ok (.iload_n 2, 1) := by decide +kernel
theorem dX7_closes_135 : decode cX7_closes 135 = .ok (.invokevirtual 299, 3) := by decide +kernel
theorem dX7_closes_138 : decode cX7_closes 138 = .ok (.return_, 1) := by decide +kernel
theorem dX7_goesBehind_0 : decode cX7_goesBehind 0 = .ok (.iconst 0, 1) := by decide +kernel
theorem dX7_goesBehind_1 : decode cX7_goesBehind 1 = .ok (.istore_n 2, 1) := by decide +kernel
theorem dX7_goesBehind_2 : decode cX7_goesBehind 2 = .ok (.iload_n 2, 1) := by decide +kernel
theorem dX7_goesBehind_3 : decode cX7_goesBehind 3 = .ok (.sipush 625, 3) := by decide +kernel
theorem dX7_goesBehind_6 : decode cX7_goesBehind 6 = .ok (.if_icmp .ge 27, 3) := by decide +kernel
theorem dX7_goesBehind_9 : decode cX7_goesBehind 9 = .ok (.aload_n 0, 1) := by decide +kernel
theorem dX7_goesBehind_10 : decode cX7_goesBehind 10 = .ok (.getfield 98, 3) := by decide +kernel
theorem dX7_goesBehind_13 : decode cX7_goesBehind 13 = .ok (.iload_n 2, 1) := by decide +kernel
theorem dX7_goesBehind_14 : decode cX7_goesBehind 14 = .ok (.aload_n 0, 1) := by decide +kernel
theorem dX7_goesBehind_15 : decode cX7_goesBehind 15 = .ok (.getfield 86, 3) := by decide +kernel
theorem dX7_goesBehind_18 : decode cX7_goesBehind 18 = .ok (.sipush 625, 3) := by decide +kernel
theorem dX7_goesBehind_21 : decode cX7_goesBehind 21 = .ok (.iload_n 1, 1) := by decide +kernel
theorem dX7_goesBehind_22 : decode cX7_goesBehind 22 = .ok (.imul, 1) := by decide +kernel
theorem dX7_goesBehind_23 : decode cX7_goesBehind 23 = .ok (.iload_n 2, 1) := by decide +kernel
theorem dX7_goesBehind_24 : decode cX7_goesBehind 24 = .ok (.iadd, 1) := by decide +kernel
theorem dX7_goesBehind_25 : decode cX7_goesBehind 25 = .ok (.iaload, 1) := by decide +kernel
theorem dX7_goesBehind_26 : decode cX7_goesBehind 26 = .ok (.iastore, 1) := by decide +kernel
theorem dX7_goesBehind_27 : decode cX7_goesBehind 27 = .ok (.iinc 2 1, 3) := by decide +kernel
theorem dX7_goesBehind_30 : decode cX7_goesBehind 30 = .ok (.goto (-28), 3) := by decide +kernel
theorem dX7_goesBehind_33 : decode cX7_goesBehind 33 = .ok (.aload_n 0, 1) := by decide +kernel
theorem dX7_goesBehind_34 : decode cX7_goesBehind 34 = .ok (.aload_n 0, 1) := by decide +kernel
theorem dX7_goesBehind_35 : decode cX7_goesBehind 35 = .ok (.getfield 89, 3) := by decide +kernel
theorem dX7_goesBehind_38 : decode cX7_goesBehind 38 = .ok (.sipush 625, 3) := by decide +kernel
theorem dX7_goesBehind_41 : decode cX7_goesBehind 41 = .ok (.iload_n 1, 1) := by decide +kernel
theorem dX7_goesBehind_42 : decode cX7_goesBehind 42 = .ok (.imul, 1) := by decide +kernel
theorem dX7_goesBehind_43 : decode cX7_goesBehind 43 = .ok (.invokevirtual 295, 3) := by decide +kernel
theorem dX7_goesBehind_46 : decode cX7_goesBehind 46 = .ok (.return_, 1) := by decide +kernel
theorem dX7_findTable_0 : decode cX7_findTable 0 = .ok (.iconst 0, 1) := by decide +kernel
theorem dX7_findTable_1 : decode cX7_findTable 1 = .ok (.istore_n 2, 1) := by decide +kernel
theorem dX7_findTable_2 : decode cX7_findTable 2 = .ok (.aload_n 0, 1) := by decide +kernel
theorem dX7_findTable_3 : decode cX7_findTable 3 = .ok (.invokevirtual 292, 3) := by decide +kernel
theorem dX7_findTable_6 : decode cX7_findTable 6 = .ok (.iconst 0, 1) := by decide +kernel
theorem dX7_findTable_7 : decode cX7_findTable 7 = .ok (.istore_n 3, 1) := by decide +kernel
theorem dX7_findTable_8 : decode cX7_findTable 8 = .ok (.iload_n 3, 1) := by decide +kernel
theorem dX7_findTable_9 : decode cX7_findTable 9 = .ok (.aload_n 0, 1) := by decide +kernel
theorem dX7_findTable_10 : decode cX7_findTable 10 = .ok (.getfield 52, 3) := by decide +kernel
theorem dX7_findTable_13 : decode cX7_findTable 13 = .ok (.iload_n 1, 1) := by decide +kernel
theorem dX7_findTable_14 : decode cX7_findTable 14 = .ok (.iaload, 1) := by decide +kernel
theorem dX7_findTable_15 : decode cX7_findTable 15 = .ok (.if_icmp .ge 285, 3) := by decide +kernel
theorem dX7_findTable_18 : decode cX7_findTable 18 = .ok (.aload_n 0, 1) := by decide +kernel
theorem dX7_findTable_19 : decode cX7_findTable 19 = .ok (.getfield 49, 3) := by decide +kernel
theorem dX7_findTable_22 : decode cX7_findTable 22 = .ok (.bipush 60, 2) := by decide +kernel
theorem dX7_findTable_24 : decode cX7_findTable 24 = .ok (.iload_n 1, 1) := by decide +kernel
theorem dX7_findTable_25 : decode cX7_findTable 25 = .ok (.imul, 1) := by decide +kernel
theorem dX7_findTable_26 : decode cX7_findTable 26 = .ok (.iload_n 3, 1) := by decide +kernel
theorem dX7_findTable_27 : decode cX7_findTable 27 = .ok (.iadd, 1) := by decide +kernel
theorem dX7_findTable_28 : decode cX7_findTable 28 = .ok (.iaload, 1) := by decide +kernel
theorem dX7_findTable_29 : decode cX7_findTable 29 = .ok (.istore 4, 2) := by decide +kernel
theorem dX7_findTable_31 : decode cX7_findTable 31 = .ok (.iload 4, 2) := by decide +kernel
theorem dX7_findTable_33 : decode cX7_findTable 33 = .ok (.invokestatic 214, 3) := by decide +kernel
theorem dX7_findTable_36 : decode cX7_findTable 36 = .ok (.ifCond .eq 15, 3) := by decide +kernel
theorem dX7_findTable_39 : decode cX7_findTable 39 = .ok (.aload_n 0, 1) := by decide +kernel
theorem dX7_findTable_40 : decode cX7_findTable 40 = .ok (.iload 4, 2) := by decide +kernel
theorem dX7_findTable_42 : decode cX7_findTable 42 = .ok (.bipush 97, 2) := by decide +kernel
theorem dX7_findTable_44 : decode cX7_findTable 44 = .ok (.isub, 1) := by decide +kernel
theorem dX7_findTable_45 : decode cX7_findTable 45 = .ok (.invokevirtual 303, 3) := by decide +kernel
theorem dX7_findTable_48 : decode cX7_findTable 48 = .ok (.goto 246, 3) := by decide +kernel
theorem dX7_findTable_51 : decode cX7_findTable 51 = .ok (.iload 4, 2) := by decide +kernel
theorem dX7_findTable_53 : decode cX7_findTable 53 = .ok (.invokestatic 217, 3) := by decide +kernel
theorem dX7_findTable_56 : decode cX7_findTable 56 = .ok (.ifCond .eq 23, 3) := by decide +kernel
theorem dX7_findTable_59 : decode cX7_findTable 59 = .ok (.aload_n 0, 1) := by decide +kernel
theorem dX7_findTable_60 : decode cX7_findTable 60 = .ok (.aload_n 0, 1) := by decide +kernel
theorem dX7_findTable_61 : decode cX7_findTable 61 = .ok (.getfield 83, 3) := by decide +kernel
theorem dX7_findTable_64 : decode cX7_findTable 64 = .ok (.sipush 625, 3) := by decide +kernel
theorem dX7_findTable_67 : decode cX7_findTable 67 = .ok (.iload 4, 2) := by decide +kernel
theorem dX7_findTable_69 : decode cX7_findTable 69 = .ok (.bipush 65, 2) := by decide +kernel
theorem dX7_findTable_71 : decode cX7_findTable 71 = .ok (.isub, 1) := by decide +kernel
theorem dX7_findTable_72 : decode cX7_findTable 72 = .ok (.imul, 1) := by decide +kernel
theorem dX7_findTable_73 : decode cX7_findTable 73 = .ok (.invokevirtual 295, 3) := by decide +kernel
theorem dX7_findTable_76 : decode cX7_findTable 76 = .ok (.goto 218, 3) := by decide +kernel
theorem dX7_findTable_79 : decode cX7_findTable 79 = .ok (.iload 4, 2) := by decide +kernel
theorem dX7_findTable_81 : decode cX7_findTable 81 = .ok (.bipush 91, 2) := by decide +kernel
theorem dX7_findTable_83 : decode cX7_findTable 83 = .ok (.if_icmp .eq 17, 3) := by decide +kernel
theorem dX7_findTable_86 : decode cX7_findTable 86 = .ok (.iload 4, 2) := by decide +kernel
theorem dX7_findTable_88 : decode cX7_findTable 88 = .ok (.bipush 123, 2) := by decide +kernel
theorem dX7_findTable_90 : decode cX7_findTable 90 = .ok (.if_icmp .eq 10, 3) := by decide +kernel
theorem dX7_findTable_93 : decode cX7_findTable 93 = .ok (.iload 4, 2) := by decide +kernel
theorem dX7_findTable_95 : decode cX7_findTable 95 = .ok (.bipush 40, 2) := by decide +kernel
theorem dX7_findTable_97 : decode cX7_findTable 97 = .ok (.if_icmp .ne 50, 3) := by decide +kernel
theorem dX7_findTable_100 : decode cX7_findTable 100 = .ok (.iconst 0, 1) := by decide +kernel
theorem dX7_findTable_101 : decode cX7_findTable 101 = .ok (.istore 5, 2) := by decide +kernel
theorem dX7_findTable_103 : decode cX7_findTable 103 = .ok (.iload 5, 2) := by decide +kernel
theorem dX7_findTable_105 : decode cX7_findTable 105 = .ok (.sipush 625, 3) := by decide +kernel
theorem dX7_findTable_108 : decode cX7_findTable 108 = .ok (.if_icmp .ge 29, 3) := by decide +kernel
theorem dX7_findTable_111 : decode cX7_findTable 111 = .ok (.aload_n 0, 1) := by decide +kernel
theorem dX7_findTable_112 : decode cX7_findTable 112 = .ok (.getfield 86, 3) := by decide +kernel
theorem dX7_findTable_115 : decode cX7_findTable 115 = .ok (.sipush 625, 3) := by decide +kernel
theorem dX7_findTable_118 : decode cX7_findTable 118 = .ok (.iload_n 2, 1) := by decide +kernel
theorem dX7_findTable_119 : decode cX7_findTable 119 = .ok (.imul, 1) := by decide +kernel
theorem dX7_findTable_120 : decode cX7_findTable 120 = .ok (.iload 5, 2) := by decide +kernel
theorem dX7_findTable_122 : decode cX7_findTable 122 = .ok (.iadd, 1) := by decide +kernel
theorem dX7_findTable_123 : decode cX7_findTable 123 = .ok (.aload_n 0, 1) := by decide +kernel
theorem dX7_findTable_124 : decode cX7_findTable 124 = .ok (.getfield 98, 3) := by decide +kernel
theorem dX7_findTable_127 : decode cX7_findTable 127 = .ok (.iload 5, 2) := by decide +kernel
theorem dX7_findTable_129 : decode cX7_findTable 129 = .ok (.iaload, 1) := by decide +kernel
theorem dX7_findTable_130 : decode cX7_findTable 130 = .ok (.iastore, 1) := by decide +kernel
theorem dX7_findTable_131 : decode cX7_findTable 131 = .ok (.iinc 5 1, 3) := by decide +kernel
theorem dX7_findTable_134 : decode cX7_findTable 134 = .ok (.goto (-31), 3) := by decide +kernel
theorem dX7_findTable_137 : decode cX7_findTable 137 = .ok (.iinc 2 1, 3) := by decide +kernel
theorem dX7_findTable_140 : decode cX7_findTable 140 = .ok (.aload_n 0, 1) := by decide +kernel
theorem dX7_findTable_141 : decode cX7_findTable 141 = .ok (.invokevirtual 292, 3) := by decide +kernel
theorem dX7_findTable_144 : decode cX7_findTable 144 = .ok (.goto 150, 3) := by decide +kernel
theorem dX7_findTable_147 : decode cX7_findTable 147 = .ok (.iload 4, 2) := by decide +kernel
theorem dX7_findTable_149 : decode cX7_findTable 149 = .ok (.bipush 124, 2) := by decide +kernel
theorem dX7_findTable_151 : decode cX7_findTable 151 = .ok (.if_icmp .ne 49, 3) := by decide +kernel
theorem dX7_findTable_154 : decode cX7_findTable 154 = .ok (.iconst 0, 1) := by decide +kernel
theorem dX7_findTable_155 : decode cX7_findTable 155 = .ok (.istore 5, 2) := by decide +kernel
theorem dX7_findTable_157 : decode cX7_findTable 157 = .ok (.iload 5, 2) := by decide +kernel
theorem dX7_findTable_159 : decode cX7_findTable 159 = .ok (.sipush 625, 3) := by decide +kernel
theorem dX7_findTable_162 : decode cX7_findTable 162 = .ok (.if_icmp .ge 31, 3) := by decide +kernel
theorem dX7_findTable_165 : decode cX7_findTable 165 = .ok (.aload_n 0, 1) := by decide +kernel
theorem dX7_findTable_166 : decode cX7_findTable 166 = .ok (.getfield 89, 3) := by decide +kernel
theorem dX7_findTable_169 : decode cX7_findTable 169 = .ok (.sipush 625, 3) := by decide +kernel
theorem dX7_findTable_172 : decode cX7_findTable 172 = .ok (.iload_n 2, 1) := by decide +kernel
theorem dX7_findTable_173 : decode cX7_findTable 173 = .ok (.iconst 1, 1) := by decide +kernel
theorem dX7_findTable_174 : decode cX7_findTable 174 = .ok (.isub, 1) := by decide +kernel
theorem dX7_findTable_175 : decode cX7_findTable 175 = .ok (.imul, 1) := by decide +kernel
theorem dX7_findTable_176 : decode cX7_findTable 176 = .ok (.iload 5, 2) := by decide +kernel
theorem dX7_findTable_178 : decode cX7_findTable 178 = .ok (.iadd, 1) := by decide +kernel
theorem dX7_findTable_179 : decode cX7_findTable 179 = .ok (.aload_n 0, 1) := by decide +kernel
theorem dX7_findTable_180 : decode cX7_findTable 180 = .ok (.getfield 98, 3) := by decide +kernel
theorem dX7_findTable_183 : decode cX7_findTable 183 = .ok (.iload 5, 2) := by decide +kernel
theorem dX7_findTable_185 : decode cX7_findTable 185 = .ok (.iaload, 1) := by decide +kernel
theorem dX7_findTable_186 : decode cX7_findTable 186 = .ok (.iastore, 1) := by decide +kernel
theorem dX7_findTable_187 : decode cX7_findTable 187 = .ok (.iinc 5 1, 3) := by decide +kernel
theorem dX7_findTable_190 : decode cX7_findTable 190 = .ok (.goto (-33), 3) := by decide +kernel
theorem dX7_findTable_193 : decode cX7_findTable 193 = .ok (.aload_n 0, 1) := by decide +kernel
theorem dX7_findTable_194 : decode cX7_findTable 194 = .ok (.invokevirtual 292, 3) := by decide +kernel
theorem dX7_findTable_197 : decode cX7_findTable 197 = .ok (.goto 97, 3) := by decide +kernel
theorem dX7_findTable_200 : decode cX7_findTable 200 = .ok (.iinc 2 (-1), 3) := by decide +kernel
theorem dX7_findTable_203 : decode cX7_findTable 203 = .ok (.iload 4, 2) := by decide +kernel
theorem dX7_findTable_205 : decode cX7_findTable 205 = .ok (.bipush 41, 2) := by decide +kernel
theorem dX7_findTable_207 : decode cX7_findTable 207 = .ok (.if_icmp .eq 26, 3) := by decide +kernel
theorem dX7_findTable_210 : decode cX7_findTable 210 = .ok (.aload_n 0, 1) := by decide +kernel
theorem dX7_findTable_211 : decode cX7_findTable 211 = .ok (.iload 4, 2) := by decide +kernel
theorem dX7_findTable_213 : decode cX7_findTable 213 = .ok (.bipush 93, 2) := by decide +kernel
theorem dX7_findTable_215 : decode cX7_findTable 215 = .ok (.if_icmp .ne 7, 3) := by decide +kernel
theorem dX7_findTable_218 : decode cX7_findTable 218 = .ok (.iconst 1, 1) := by decide +kernel
theorem dX7_findTable_219 : decode cX7_findTable 219 = .ok (.goto 7, 3) := by decide +kernel
theorem dX7_findTable_222 : decode cX7_findTable 222 = .ok (.aload_n 0, 1) := by decide +kernel
theorem dX7_findTable_223 : decode cX7_findTable 223 = .ok (.getfield 61, 3) := by decide +kernel
theorem dX7_findTable_226 : decode cX7_findTable 226 = .ok (.iload_n 2, 1) := by decide +kernel
theorem dX7_findTable_227 : decode cX7_findTable 227 = .ok (.invokevirtual 306, 3) := by decide +kernel
theorem dX7_findTable_230 : decode cX7_findTable 230 = .ok (.goto 64, 3) := by decide +kernel
theorem dX7_findTable_233 : decode cX7_findTable 233 = .ok (.iconst 0, 1) := by decide +kernel
theorem dX7_findTable_234 : decode cX7_findTable 234 = .ok (.istore 5, 2) := by decide +kernel
theorem dX7_findTable_236 : decode cX7_findTable 236 = .ok (.iload 5, 2) := by decide +kernel
theorem dX7_findTable_238 : decode cX7_findTable 238 = .ok (.sipush 625, 3) := by decide +kernel
theorem dX7_findTable_241 : decode cX7_findTable 241 = .ok (.if_icmp .ge 48, 3) := by decide +kernel
theorem dX7_findTable_244 : decode cX7_findTable 244 = .ok (.aload_n 0, 1) := by decide +kernel
theorem dX7_findTable_245 : decode cX7_findTable 245 = .ok (.getfield 89, 3) := by decide +kernel
theorem dX7_findTable_248 : decode cX7_findTable 248 = .ok (.sipush 625, 3) := by decide +kernel
theorem dX7_findTable_251 : decode cX7_findTable 251 = .ok (.iload_n 2, 1) := by decide +kernel
theorem dX7_findTable_252 : decode cX7_findTable 252 = .ok (.imul, 1) := by decide +kernel
theorem dX7_findTable_253 : decode cX7_findTable 253 = .ok (.iload 5, 2) := by decide +kernel
theorem dX7_findTable_255 : decode cX7_findTable 255 = .ok (.iadd, 1) := by decide +kernel
theorem dX7_findTable_256 : decode cX7_findTable 256 = .ok (.aload_n 0, 1) := by decide +kernel
theorem dX7_findTable_257 : decode cX7_findTable 257 = .ok (.getfield 89, 3) := by decide +kernel
theorem dX7_findTable_260 : decode cX7_findTable 260 = .ok (.sipush 625, 3) := by decide +kernel
theorem dX7_findTable_263 : decode cX7_findTable 263 = .ok (.iload_n 2, 1) := by decide +kernel
theorem dX7_findTable_264 : decode cX7_findTable 264 = .ok (.imul, 1) := by decide +kernel
theorem dX7_findTable_265 : decode cX7_findTable 265 = .ok (.iload 5, 2) := by decide +kernel
theorem dX7_findTable_267 : decode cX7_findTable 267 = .ok (.iadd, 1) := by decide +kernel
theorem dX7_findTable_268 : decode cX7_findTable 268 = .ok (.iaload, 1) := by decide +kernel
theorem dX7_findTable_269 : decode cX7_findTable 269 = .ok (.i2l, 1) := by decide +kernel
theorem dX7_findTable_270 : decode cX7_findTable 270 = .ok (.aload_n 0, 1) := by decide +kernel
theorem dX7_findTable_271 : decode cX7_findTable 271 = .ok (.getfield 98, 3) := by decide +kernel
theorem dX7_findTable_274 : decode cX7_findTable 274 = .ok (.iload 5, 2) := by decide +kernel
theorem dX7_findTable_276 : decode cX7_findTable 276 = .ok (.iaload, 1) := by decide +kernel
theorem dX7_findTable_277 : decode cX7_findTable 277 = .ok (.i2l, 1) := by decide +kernel
theorem dX7_findTable_278 : decode cX7_findTable 278 = .ok (.ladd, 1) := by decide +kernel
theorem dX7_findTable_279 : decode cX7_findTable 279 = .ok (.invokestatic 285, 3) := by decide +kernel
theorem dX7_findTable_282 : decode cX7_findTable 282 = .ok (.iastore, 1) := by decide +kernel
theorem dX7_findTable_283 : decode cX7_findTable 283 = .ok (.iinc 5 1, 3) := by decide +kernel
theorem dX7_findTable_286 : decode cX7_findTable 286 = .ok (.goto (-50), 3) := by decide +kernel
theorem dX7_findTable_289 : decode cX7_findTable 289 = .ok (.aload_n 0, 1) := by decide +kernel
theorem dX7_findTable_290 : decode cX7_findTable 290 = .ok (.iload_n 2, 1) := by decide +kernel
theorem dX7_findTable_291 : decode cX7_findTable 291 = .ok (.invokevirtual 299, 3) := by decide +kernel
theorem dX7_findTable_294 : decode cX7_findTable 294 = .ok (.iinc 3 1, 3) := by decide +kernel
theorem dX7_findTable_297 : decode cX7_findTable 297 = .ok (.goto (-289), 3) := by decide +kernel
theorem dX7_findTable_300 : decode cX7_findTable 300 = .ok (.iconst 0, 1) := by decide +kernel
theorem dX7_findTable_301 : decode cX7_findTable 301 = .ok (.istore_n 3, 1) := by decide +kernel
theorem dX7_findTable_302 : decode cX7_findTable 302 = .ok (.iload_n 3, 1) := by decide +kernel
theorem dX7_findTable_303 : decode cX7_findTable 303 = .ok (.sipush 625, 3) := by decide +kernel
theorem dX7_findTable_306 : decode cX7_findTable 306 = .ok (.if_icmp .ge 27, 3) := by decide +kernel
theorem dX7_findTable_309 : decode cX7_findTable 309 = .ok (.aload_n 0, 1) := by decide +kernel
theorem dX7_findTable_310 : decode cX7_findTable 310 = .ok (.getfield 83, 3) := by decide +kernel
theorem dX7_findTable_313 : decode cX7_findTable 313 = .ok (.sipush 625, 3) := by decide +kernel
theorem dX7_findTable_316 : decode cX7_findTable 316 = .ok (.iload_n 1, 1) := by decide +kernel
theorem dX7_findTable_317 : decode cX7_findTable 317 = .ok (.imul, 1) := by decide +kernel
theorem dX7_findTable_318 : decode cX7_findTable 318 = .ok (.iload_n 3, 1) := by decide +kernel
theorem dX7_findTable_319 : decode cX7_findTable 319 = .ok (.iadd, 1) := by decide +kernel
theorem dX7_findTable_320 : decode cX7_findTable 320 = .ok (.aload_n 0, 1) := by decide +kernel
theorem dX7_findTable_321 : decode cX7_findTable 321 = .ok (.getfield 98, 3) := by decide +kernel
theorem dX7_findTable_324 : decode cX7_findTable 324 = .ok (.iload_n 3, 1) := by decide +kernel
theorem dX7_findTable_325 : decode cX7_findTable 325 = .ok (.iaload, 1) := by decide +kernel
theorem dX7_findTable_326 : decode cX7_findTable 326 = .ok (.iastore, 1) := by decide +kernel
theorem dX7_findTable_327 : decode cX7_findTable 327 = .ok (.iinc 3 1, 3) := by decide +kernel
theorem dX7_findTable_330 : decode cX7_findTable 330 = .ok (.goto (-28), 3) := by decide +kernel
theorem dX7_findTable_333 : decode cX7_findTable 333 = .ok (.return_, 1) := by decide +kernel
theorem dX7_runsOf_0 : decode cX7_runsOf 0 = .ok (.iconst 1, 1) := by decide +kernel
theorem dX7_runsOf_1 : decode cX7_runsOf 1 = .ok (.istore_n 2, 1) := by decide +kernel
theorem dX7_runsOf_2 : decode cX7_runsOf 2 = .ok (.iload_n 2, 1) := by decide +kernel
theorem dX7_runsOf_3 : decode cX7_runsOf 3 = .ok (.aload_n 0, 1) := by decide +kernel
theorem dX7_runsOf_4 : decode cX7_runsOf 4 = .ok (.getfield 232, 3) := by decide +kernel
theorem dX7_runsOf_7 : decode cX7_runsOf 7 = .ok (.if_icmp .gt 48, 3) := by decide +kernel
theorem dX7_runsOf_10 : decode cX7_runsOf 10 = .ok (.iconst 0, 1) := by decide +kernel
theorem dX7_runsOf_11 : decode cX7_runsOf 11 = .ok (.istore_n 3, 1) := by decide +kernel
theorem dX7_runsOf_12 : decode cX7_runsOf 12 = .ok (.iload_n 3, 1) := by decide +kernel
theorem dX7_runsOf_13 : decode cX7_runsOf 13 = .ok (.bipush 8, 2) := by decide +kernel
theorem dX7_runsOf_15 : decode cX7_runsOf 15 = .ok (.if_icmp .ge 34, 3) := by decide +kernel
theorem dX7_runsOf_18 : decode cX7_runsOf 18 = .ok (.aload_n 0, 1) := by decide +kernel
theorem dX7_runsOf_19 : decode cX7_runsOf 19 = .ok (.getfield 55, 3) := by decide +kernel
theorem dX7_runsOf_22 : decode cX7_runsOf 22 = .ok (.iload_n 3, 1) := by decide +kernel
theorem dX7_runsOf_23 : decode cX7_runsOf 23 = .ok (.iaload, 1) := by decide +kernel
theorem dX7_runsOf_24 : decode cX7_runsOf 24 = .ok (.iload_n 2, 1) := by decide +kernel
theorem dX7_runsOf_25 : decode cX7_runsOf 25 = .ok (.if_icmp .ne 18, 3) := by decide +kernel
theorem dX7_runsOf_28 : decode cX7_runsOf 28 = .ok (.iload_n 2, 1) := by decide +kernel
theorem dX7_runsOf_29 : decode cX7_runsOf 29 = .ok (.aload_n 0, 1) := by decide +kernel
theorem dX7_runsOf_30 : decode cX7_runsOf 30 = .ok (.getfield 55, 3) := by decide +kernel
theorem dX7_runsOf_33 : decode cX7_runsOf 33 = .ok (.iload_n 1, 1) := by decide +kernel
theorem dX7_runsOf_34 : decode cX7_runsOf 34 = .ok (.iaload, 1) := by decide +kernel
theorem dX7_runsOf_35 : decode cX7_runsOf 35 = .ok (.if_icmp .gt 8, 3) := by decide +kernel
theorem dX7_runsOf_38 : decode cX7_runsOf 38 = .ok (.aload_n 0, 1) := by decide +kernel
theorem dX7_runsOf_39 : decode cX7_runsOf 39 = .ok (.iload_n 3, 1) := by decide +kernel
theorem dX7_runsOf_40 : decode cX7_runsOf 40 = .ok (.invokevirtual 310, 3) := by decide +kernel
theorem dX7_runsOf_43 : decode cX7_runsOf 43 = .ok (.iinc 3 1, 3) := by decide +kernel
theorem dX7_runsOf_46 : decode cX7_runsOf 46 = .ok (.goto (-34), 3) := by decide +kernel
theorem dX7_runsOf_49 : decode cX7_runsOf 49 = .ok (.iinc 2 1, 3) := by decide +kernel
theorem dX7_runsOf_52 : decode cX7_runsOf 52 = .ok (.goto (-50), 3) := by decide +kernel
theorem dX7_runsOf_55 : decode cX7_runsOf 55 = .ok (.aload_n 0, 1) := by decide +kernel
theorem dX7_runsOf_56 : decode cX7_runsOf 56 = .ok (.getfield 83, 3) := by decide +kernel
theorem dX7_runsOf_59 : decode cX7_runsOf 59 = .ok (.sipush 625, 3) := by decide +kernel
theorem dX7_runsOf_62 : decode cX7_runsOf 62 = .ok (.iload_n 1, 1) := by decide +kernel
theorem dX7_runsOf_63 : decode cX7_runsOf 63 = .ok (.imul, 1) := by decide +kernel
theorem dX7_runsOf_64 : decode cX7_runsOf 64 = .ok (.aload_n 0, 1) := by decide +kernel
theorem dX7_runsOf_65 : decode cX7_runsOf 65 = .ok (.getfield 282, 3) := by decide +kernel
theorem dX7_runsOf_68 : decode cX7_runsOf 68 = .ok (.iadd, 1) := by decide +kernel
theorem dX7_runsOf_69 : decode cX7_runsOf 69 = .ok (.iaload, 1) := by decide +kernel
theorem dX7_runsOf_70 : decode cX7_runsOf 70 = .ok (.ireturn, 1) := by decide +kernel
theorem dX7_isSinger_0 : decode cX7_isSinger 0 = .ok (.iload_n 1, 1) := by decide +kernel
theorem dX7_isSinger_1 : decode cX7_isSinger 1 = .ok (.ifCond .lt 15, 3) := by decide +kernel
theorem dX7_isSinger_4 : decode cX7_isSinger 4 = .ok (.iload_n 1, 1) := by decide +kernel
theorem dX7_isSinger_5 : decode cX7_isSinger 5 = .ok (.aload_n 0, 1) := by decide +kernel
theorem dX7_isSinger_6 : decode cX7_isSinger 6 = .ok (.getfield 313, 3) := by decide +kernel
theorem dX7_isSinger_9 : decode cX7_isSinger 9 = .ok (.if_icmp .ge 7, 3) := by decide +kernel
theorem dX7_isSinger_12 : decode cX7_isSinger 12 = .ok (.iconst 1, 1) := by decide +kernel
theorem dX7_isSinger_13 : decode cX7_isSinger 13 = .ok (.goto 4, 3) := by decide +kernel
theorem dX7_isSinger_16 : decode cX7_isSinger 16 = .ok (.iconst 0, 1) := by decide +kernel
theorem dX7_isSinger_17 : decode cX7_isSinger 17 = .ok (.ireturn, 1) := by decide +kernel
theorem dX7_isYear_0 : decode cX7_isYear 0 = .ok (.iload_n 0, 1) := by decide +kernel
theorem dX7_isYear_1 : decode cX7_isYear 1 = .ok (.ifCond .lt 14, 3) := by decide +kernel
theorem dX7_isYear_4 : decode cX7_isYear 4 = .ok (.iload_n 0, 1) := by decide +kernel
theorem dX7_isYear_5 : decode cX7_isYear 5 = .ok (.sipush 999, 3) := by decide +kernel
theorem dX7_isYear_8 : decode cX7_isYear 8 = .ok (.if_icmp .gt 7, 3) := by decide +kernel
theorem dX7_isYear_11 : decode cX7_isYear 11 = .ok (.iconst 1, 1) := by decide +kernel
theorem dX7_isYear_12 : decode cX7_isYear 12 = .ok (.goto 4, 3) := by decide +kernel
theorem dX7_isYear_15 : decode cX7_isYear 15 = .ok (.iconst 0, 1) := by decide +kernel
theorem dX7_isYear_16 : decode cX7_isYear 16 = .ok (.ireturn, 1) := by decide +kernel
theorem dX7_isKnown_0 : decode cX7_isKnown 0 = .ok (.iload_n 1, 1) := by decide +kernel
theorem dX7_isKnown_1 : decode cX7_isKnown 1 = .ok (.i2l, 1) := by decide +kernel
theorem dX7_isKnown_2 : decode cX7_isKnown 2 = .ok (.ldc2_w 156, 3) := by decide +kernel
theorem dX7_isKnown_5 : decode cX7_isKnown 5 = .ok (.aload_n 0, 1) := by decide +kernel
theorem dX7_isKnown_6 : decode cX7_isKnown 6 = .ok (.getfield 266, 3) := by decide +kernel
theorem dX7_isKnown_9 : decode cX7_isKnown 9 = .ok (.i2l, 1) := by decide +kernel
theorem dX7_isKnown_10 : decode cX7_isKnown 10 = .ok (.invokestatic 152, 3) := by decide +kernel
theorem dX7_isKnown_13 : decode cX7_isKnown 13 = .ok (.ireturn, 1) := by decide +kernel
theorem dX7_upTo_0 : decode cX7_upTo 0 = .ok (.iload_n 1, 1) := by decide +kernel
theorem dX7_upTo_1 : decode cX7_upTo 1 = .ok (.ifCond .ge 10, 3) := by decide +kernel
theorem dX7_upTo_4 : decode cX7_upTo 4 = .ok (.aload_n 0, 1) := by decide +kernel
theorem dX7_upTo_5 : decode cX7_upTo 5 = .ok (.getfield 266, 3) := by decide +kernel
theorem dX7_upTo_8 : decode cX7_upTo 8 = .ok (.goto 4, 3) := by decide +kernel
theorem dX7_upTo_11 : decode cX7_upTo 11 = .ok (.iload_n 1, 1) := by decide +kernel
theorem dX7_upTo_12 : decode cX7_upTo 12 = .ok (.ireturn, 1) := by decide +kernel
theorem dX7_singer_0 : decode cX7_singer 0 = .ok (.iload_n 1, 1) := by decide +kernel
theorem dX7_singer_1 : decode cX7_singer 1 = .ok (.invokestatic 263, 3) := by decide +kernel
theorem dX7_singer_4 : decode cX7_singer 4 = .ok (.ifCond .ne 6, 3) := by decide +kernel
theorem dX7_singer_7 : decode cX7_singer 7 = .ok (.bipush (-2), 2) := by decide +kernel
theorem dX7_singer_9 : decode cX7_singer 9 = .ok (.ireturn, 1) := by decide +kernel
theorem dX7_singer_10 : decode cX7_singer 10 = .ok (.aload_n 0, 1) := by decide +kernel
theorem dX7_singer_11 : decode cX7_singer 11 = .ok (.getfield 313, 3) := by decide +kernel
theorem dX7_singer_14 : decode cX7_singer 14 = .ok (.bipush 8, 2) := by decide +kernel
theorem dX7_singer_16 : decode cX7_singer 16 = .ok (.if_icmp .ne 6, 3) := by decide +kernel
theorem dX7_singer_19 : decode cX7_singer 19 = .ok (.bipush (-4), 2) := by decide +kernel
theorem dX7_singer_21 : decode cX7_singer 21 = .ok (.ireturn, 1) := by decide +kernel
theorem dX7_singer_22 : decode cX7_singer 22 = .ok (.aload_n 0, 1) := by decide +kernel
theorem dX7_singer_23 : decode cX7_singer 23 = .ok (.getfield 107, 3) := by decide +kernel
theorem dX7_singer_26 : decode cX7_singer 26 = .ok (.aload_n 0, 1) := by decide +kernel
theorem dX7_singer_27 : decode cX7_singer 27 = .ok (.getfield 313, 3) := by decide +kernel
theorem dX7_singer_30 : decode cX7_singer 30 = .ok (.iload_n 1, 1) := by decide +kernel
theorem dX7_singer_31 : decode cX7_singer 31 = .ok (.iastore, 1) := by decide +kernel
theorem dX7_singer_32 : decode cX7_singer 32 = .ok (.aload_n 0, 1) := by decide +kernel
theorem dX7_singer_33 : decode cX7_singer 33 = .ok (.dup, 1) := by decide +kernel
theorem dX7_singer_34 : decode cX7_singer 34 = .ok (.getfield 313, 3) := by decide +kernel
theorem dX7_singer_37 : decode cX7_singer 37 = .ok (.iconst 1, 1) := by decide +kernel
theorem dX7_singer_38 : decode cX7_singer 38 = .ok (.iadd, 1) := by decide +kernel
theorem dX7_singer_39 : decode cX7_singer 39 = .ok (.putfield 313, 3) := by decide +kernel
theorem dX7_singer_42 : decode cX7_singer 42 = .ok (.aload_n 0, 1) := by decide +kernel
theorem dX7_singer_43 : decode cX7_singer 43 = .ok (.getfield 313, 3) := by decide +kernel
theorem dX7_singer_46 : decode cX7_singer 46 = .ok (.iconst 1, 1) := by decide +kernel
theorem dX7_singer_47 : decode cX7_singer 47 = .ok (.isub, 1) := by decide +kernel
theorem dX7_singer_48 : decode cX7_singer 48 = .ok (.ireturn, 1) := by decide +kernel
theorem dX7_village_0 : decode cX7_village 0 = .ok (.aload_n 0, 1) := by decide +kernel
theorem dX7_village_1 : decode cX7_village 1 = .ok (.iload_n 1, 1) := by decide +kernel
theorem dX7_village_2 : decode cX7_village 2 = .ok (.invokevirtual 260, 3) := by decide +kernel
theorem dX7_village_5 : decode cX7_village 5 = .ok (.ifCond .ne 5, 3) := by decide +kernel
theorem dX7_village_8 : decode cX7_village 8 = .ok (.iconst (-1), 1) := by decide +kernel
theorem dX7_village_9 : decode cX7_village 9 = .ok (.ireturn, 1) := by decide +kernel
theorem dX7_village_10 : decode cX7_village 10 = .ok (.iload_n 2, 1) := by decide +kernel
theorem dX7_village_11 : decode cX7_village 11 = .ok (.i2l, 1) := by decide +kernel
theorem dX7_village_12 : decode cX7_village 12 = .ok (.lconst 0, 1) := by decide +kernel
theorem dX7_village_13 : decode cX7_village 13 = .ok (.ldc2_w 316, 3) := by decide +kernel
theorem dX7_village_16 : decode cX7_village 16 = .ok (.invokestatic 152, 3) := by decide +kernel
theorem dX7_village_19 : decode cX7_village 19 = .ok (.ifCond .ne 6, 3) := by decide +kernel
theorem dX7_village_22 : decode cX7_village 22 = .ok (.bipush (-2), 2) := by decide +kernel
theorem dX7_village_24 : decode cX7_village 24 = .ok (.ireturn, 1) := by decide +kernel
theorem dX7_village_25 : decode cX7_village 25 = .ok (.aload_n 0, 1) := by decide +kernel
theorem dX7_village_26 : decode cX7_village 26 = .ok (.getfield 110, 3) := by decide +kernel
theorem dX7_village_29 : decode cX7_village 29 = .ok (.iload_n 1, 1) := by decide +kernel
theorem dX7_village_30 : decode cX7_village 30 = .ok (.iaload, 1) := by decide +kernel
theorem dX7_village_31 : decode cX7_village 31 = .ok (.istore_n 3, 1) := by decide +kernel
theorem dX7_village_32 : decode cX7_village 32 = .ok (.aload_n 0, 1) := by decide +kernel
theorem dX7_village_33 : decode cX7_village 33 = .ok (.getfield 110, 3) := by decide +kernel
theorem dX7_village_36 : decode cX7_village 36 = .ok (.iload_n 1, 1) := by decide +kernel
theorem dX7_village_37 : decode cX7_village 37 = .ok (.iload_n 2, 1) := by decide +kernel
theorem dX7_village_38 : decode cX7_village 38 = .ok (.iastore, 1) := by decide +kernel
theorem dX7_village_39 : decode cX7_village 39 = .ok (.iload_n 3, 1) := by decide +kernel
theorem dX7_village_40 : decode cX7_village 40 = .ok (.ireturn, 1) := by decide +kernel
theorem dX7_enters_0 : decode cX7_enters 0 = .ok (.aload_n 0, 1) := by decide +kernel
theorem dX7_enters_1 : decode cX7_enters 1 = .ok (.getfield 266, 3) := by decide +kernel
theorem dX7_enters_4 : decode cX7_enters 4 = .ok (.sipush 200, 3) := by decide +kernel
theorem dX7_enters_7 : decode cX7_enters 7 = .ok (.if_icmp .ne 6, 3) := by decide +kernel
theorem dX7_enters_10 : decode cX7_enters 10 = .ok (.bipush (-4), 2) := by decide +kernel
theorem dX7_enters_12 : decode cX7_enters 12 = .ok (.ireturn, 1) := by decide +kernel
theorem dX7_enters_13 : decode cX7_enters 13 = .ok (.aload_n 0, 1) := by decide +kernel
theorem dX7_enters_14 : decode cX7_enters 14 = .ok (.getfield 113, 3) := by decide +kernel
theorem dX7_enters_17 : decode cX7_enters 17 = .ok (.aload_n 0, 1) := by decide +kernel
theorem dX7_enters_18 : decode cX7_enters 18 = .ok (.getfield 266, 3) := by decide +kernel
theorem dX7_enters_21 : decode cX7_enters 21 = .ok (.iload_n 1, 1) := by decide +kernel
theorem dX7_enters_22 : decode cX7_enters 22 = .ok (.iastore, 1) := by decide +kernel
theorem dX7_enters_23 : decode cX7_enters 23 = .ok (.aload_n 0, 1) := by decide +kernel
theorem dX7_enters_24 : decode cX7_enters 24 = .ok (.getfield 116, 3) := by decide +kernel
theorem dX7_enters_27 : decode cX7_enters 27 = .ok (.aload_n 0, 1) := by decide +kernel
theorem dX7_enters_28 : decode cX7_enters 28 = .ok (.getfield 266, 3) := by decide +kernel
theorem dX7_enters_31 : decode cX7_enters 31 = .ok (.iload_n 2, 1) := by decide +kernel
theorem dX7_enters_32 : decode cX7_enters 32 = .ok (.iastore, 1) := by decide +kernel
theorem dX7_enters_33 : decode cX7_enters 33 = .ok (.aload_n 0, 1) := by decide +kernel
theorem dX7_enters_34 : decode cX7_enters 34 = .ok (.getfield 119, 3) := by decide +kernel
theorem dX7_enters_37 : decode cX7_enters 37 = .ok (.aload_n 0, 1) := by decide +kernel
theorem dX7_enters_38 : decode cX7_enters 38 = .ok (.getfield 266, 3) := by decide +kernel
theorem dX7_enters_41 : decode cX7_enters 41 = .ok (.iload_n 3, 1) := by decide +kernel
theorem dX7_enters_42 : decode cX7_enters 42 = .ok (.iastore, 1) := by decide +kernel
theorem dX7_enters_43 : decode cX7_enters 43 = .ok (.aload_n 0, 1) := by decide +kernel
theorem dX7_enters_44 : decode cX7_enters 44 = .ok (.getfield 122, 3) := by decide +kernel
theorem dX7_enters_47 : decode cX7_enters 47 = .ok (.aload_n 0, 1) := by decide +kernel
theorem dX7_enters_48 : decode cX7_enters 48 = .ok (.getfield 266, 3) := by decide +kernel
theorem dX7_enters_51 : decode cX7_enters 51 = .ok (.iload 4, 2) := by decide +kernel
theorem dX7_enters_53 : decode cX7_enters 53 = .ok (.bastore, 1) := by decide +kernel
theorem dX7_enters_54 : decode cX7_enters 54 = .ok (.aload_n 0, 1) := by decide +kernel
theorem dX7_enters_55 : decode cX7_enters 55 = .ok (.dup, 1) := by decide +kernel
theorem dX7_enters_56 : decode cX7_enters 56 = .ok (.getfield 266, 3) := by decide +kernel
theorem dX7_enters_59 : decode cX7_enters 59 = .ok (.iconst 1, 1) := by decide +kernel
theorem dX7_enters_60 : decode cX7_enters 60 = .ok (.iadd, 1) := by decide +kernel
theorem dX7_enters_61 : decode cX7_enters 61 = .ok (.putfield 266, 3) := by decide +kernel
theorem dX7_enters_64 : decode cX7_enters 64 = .ok (.aload_n 0, 1) := by decide +kernel
theorem dX7_enters_65 : decode cX7_enters 65 = .ok (.getfield 266, 3) := by decide +kernel
theorem dX7_enters_68 : decode cX7_enters 68 = .ok (.ireturn, 1) := by decide +kernel
theorem dX7_learn_0 : decode cX7_learn 0 = .ok (.aload_n 0, 1) := by decide +kernel
theorem dX7_learn_1 : decode cX7_learn 1 = .ok (.iload_n 1, 1) := by decide +kernel
theorem dX7_learn_2 : decode cX7_learn 2 = .ok (.invokevirtual 260, 3) := by decide +kernel
theorem dX7_learn_5 : decode cX7_learn 5 = .ok (.ifCond .eq 24, 3) := by decide +kernel
theorem dX7_learn_8 : decode cX7_learn 8 = .ok (.aload_n 0, 1) := by decide +kernel
theorem dX7_learn_9 : decode cX7_learn 9 = .ok (.iload_n 2, 1) := by decide +kernel
theorem dX7_learn_10 : decode cX7_learn 10 = .ok (.invokevirtual 186, 3) := by decide +kernel
theorem dX7_learn_13 : decode cX7_learn 13 = .ok (.ifCond .eq 16, 3) := by decide +kernel
theorem dX7_learn_16 : decode cX7_learn 16 = .ok (.iload_n 3, 1) := by decide +kernel
theorem dX7_learn_17 : decode cX7_learn 17 = .ok (.iconst (-1), 1) := by decide +kernel
theorem dX7_learn_18 : decode cX7_learn 18 = .ok (.if_icmp .eq 13, 3) := by decide +kernel
theorem dX7_learn_21 : decode cX7_learn 21 = .ok (.aload_n 0, 1) := by decide +kernel
theorem dX7_learn_22 : decode cX7_learn 22 = .ok (.iload_n 3, 1) := by decide +kernel
theorem dX7_learn_23 : decode cX7_learn 23 = .ok (.invokevirtual 260, 3) := by decide +kernel
theorem dX7_learn_26 : decode cX7_learn 26 = .ok (.ifCond .ne 5, 3) := by decide +kernel
theorem dX7_learn_29 : decode cX7_learn 29 = .ok (.iconst (-1), 1) := by decide +kernel
theorem dX7_learn_30 : decode cX7_learn 30 = .ok (.ireturn, 1) := by decide +kernel
theorem dX7_learn_31 : decode cX7_learn 31 = .ok (.iload 4, 2) := by decide +kernel
theorem dX7_learn_33 : decode cX7_learn 33 = .ok (.invokestatic 263, 3) := by decide +kernel
theorem dX7_learn_36 : decode cX7_learn 36 = .ok (.ifCond .eq 8, 3) := by decide +kernel
theorem dX7_learn_39 : decode cX7_learn 39 = .ok (.iload_n 3, 1) := by decide +kernel
theorem dX7_learn_40 : decode cX7_learn 40 = .ok (.iload_n 1, 1) := by decide +kernel
theorem dX7_learn_41 : decode cX7_learn 41 = .ok (.if_icmp .ne 6, 3) := by decide +kernel
theorem dX7_learn_44 : decode cX7_learn 44 = .ok (.bipush (-2), 2) := by decide +kernel
theorem dX7_learn_46 : decode cX7_learn 46 = .ok (.ireturn, 1) := by decide +kernel
theorem dX7_learn_47 : decode cX7_learn 47 = .ok (.aload_n 0, 1) := by decide +kernel
theorem dX7_learn_48 : decode cX7_learn 48 = .ok (.iload_n 1, 1) := by decide +kernel
theorem dX7_learn_49 : decode cX7_learn 49 = .ok (.iload_n 2, 1) := by decide +kernel
theorem dX7_learn_50 : decode cX7_learn 50 = .ok (.iload 4, 2) := by decide +kernel
theorem dX7_learn_52 : decode cX7_learn 52 = .ok (.iconst 1, 1) := by decide +kernel
theorem dX7_learn_53 : decode cX7_learn 53 = .ok (.invokevirtual 318, 3) := by decide +kernel
theorem dX7_learn_56 : decode cX7_learn 56 = .ok (.ireturn, 1) := by decide +kernel
theorem dX7_forget_0 : decode cX7_forget 0 = .ok (.aload_n 0, 1) := by decide +kernel
theorem dX7_forget_1 : decode cX7_forget 1 = .ok (.iload_n 1, 1) := by decide +kernel
theorem dX7_forget_2 : decode cX7_forget 2 = .ok (.invokevirtual 260, 3) := by decide +kernel
theorem dX7_forget_5 : decode cX7_forget 5 = .ok (.ifCond .eq 11, 3) := by decide +kernel
theorem dX7_forget_8 : decode cX7_forget 8 = .ok (.aload_n 0, 1) := by decide +kernel
theorem dX7_forget_9 : decode cX7_forget 9 = .ok (.iload_n 2, 1) := by decide +kernel
theorem dX7_forget_10 : decode cX7_forget 10 = .ok (.invokevirtual 186, 3) := by decide +kernel
theorem dX7_forget_13 : decode cX7_forget 13 = .ok (.ifCond .ne 5, 3) := by decide +kernel
theorem dX7_forget_16 : decode cX7_forget 16 = .ok (.iconst (-1), 1) := by decide +kernel
theorem dX7_forget_17 : decode cX7_forget 17 = .ok (.ireturn, 1) := by decide +kernel
theorem dX7_forget_18 : decode cX7_forget 18 = .ok (.iload_n 3, 1) := by decide +kernel
theorem dX7_forget_19 : decode cX7_forget 19 = .ok (.invokestatic 263, 3) := by decide +kernel
theorem dX7_forget_22 : decode cX7_forget 22 = .ok (.ifCond .ne 6, 3) := by decide +kernel
theorem dX7_forget_25 : decode cX7_forget 25 = .ok (.bipush (-2), 2) := by decide +kernel
theorem dX7_forget_27 : decode cX7_forget 27 = .ok (.ireturn, 1) := by decide +kernel
theorem dX7_forget_28 : decode cX7_forget 28 = .ok (.aload_n 0, 1) := by decide +kernel
theorem dX7_forget_29 : decode cX7_forget 29 = .ok (.iload_n 1, 1) := by decide +kernel
theorem dX7_forget_30 : decode cX7_forget 30 = .ok (.iload_n 2, 1) := by decide +kernel
theorem dX7_forget_31 : decode cX7_forget 31 = .ok (.iload_n 3, 1) := by decide +kernel
theorem dX7_forget_32 : decode cX7_forget 32 = .ok (.iconst 0, 1) := by decide +kernel
theorem dX7_forget_33 : decode cX7_forget 33 = .ok (.invokevirtual 318, 3) := by decide +kernel
theorem dX7_forget_36 : decode cX7_forget 36 = .ok (.ireturn, 1) := by decide +kernel
theorem dX7_hasLine_0 : decode cX7_hasLine 0 = .ok (.iconst (-1), 1) := by decide +kernel
theorem dX7_hasLine_1 : decode cX7_hasLine 1 = .ok (.istore 5, 2) := by decide +kernel
theorem dX7_hasLine_3 : decode cX7_hasLine 3 = .ok (.iconst 0, 1) := by decide +kernel
theorem dX7_hasLine_4 : decode cX7_hasLine 4 = .ok (.istore 6, 2) := by decide +kernel
theorem dX7_hasLine_6 : decode cX7_hasLine 6 = .ok (.iload 6, 2) := by decide +kernel
theorem dX7_hasLine_8 : decode cX7_hasLine 8 = .ok (.iload 4, 2) := by decide +kernel
theorem dX7_hasLine_10 : decode cX7_hasLine 10 = .ok (.if_icmp .ge 68, 3) := by decide +kernel
theorem dX7_hasLine_13 : decode cX7_hasLine 13 = .ok (.aload_n 0, 1) := by decide +kernel
theorem dX7_hasLine_14 : decode cX7_hasLine 14 = .ok (.getfield 113, 3) := by decide +kernel
theorem dX7_hasLine_17 : decode cX7_hasLine 17 = .ok (.iload 6, 2) := by decide +kernel
theorem dX7_hasLine_19 : decode cX7_hasLine 19 = .ok (.iaload, 1) := by decide +kernel
theorem dX7_hasLine_20 : decode cX7_hasLine 20 = .ok (.iload_n 1, 1) := by decide +kernel
theorem dX7_hasLine_21 : decode cX7_hasLine 21 = .ok (.if_icmp .ne 51, 3) := by decide +kernel
theorem dX7_hasLine_24 : decode cX7_hasLine 24 = .ok (.aload_n 0, 1) := by decide +kernel
theorem dX7_hasLine_25 : decode cX7_hasLine 25 = .ok (.getfield 116, 3) := by decide +kernel
theorem dX7_hasLine_28 : decode cX7_hasLine 28 = .ok (.iload 6, 2) := by decide +kernel
theorem dX7_hasLine_30 : decode cX7_hasLine 30 = .ok (.iaload, 1) := by decide +kernel
theorem dX7_hasLine_31 : decode cX7_hasLine 31 = .ok (.iload_n 2, 1) := by decide +kernel
theorem dX7_hasLine_32 : decode cX7_hasLine 32 = .ok (.if_icmp .ne 40, 3) := by decide +kernel
theorem dX7_hasLine_35 : decode cX7_hasLine 35 = .ok (.aload_n 0, 1) := by decide +kernel
theorem dX7_hasLine_36 : decode cX7_hasLine 36 = .ok (.getfield 119, 3) := by decide +kernel
theorem dX7_hasLine_39 : decode cX7_hasLine 39 = .ok (.iload 6, 2) := by decide +kernel
theorem dX7_hasLine_41 : decode cX7_hasLine 41 = .ok (.iaload, 1) := by decide +kernel
theorem dX7_hasLine_42 : decode cX7_hasLine 42 = .ok (.iload_n 3, 1) := by decide +kernel
theorem dX7_hasLine_43 : decode cX7_hasLine 43 = .ok (.if_icmp .gt 29, 3) := by decide +kernel
theorem dX7_hasLine_46 : decode cX7_hasLine 46 = .ok (.iload 5, 2) := by decide +kernel
theorem dX7_hasLine_48 : decode cX7_hasLine 48 = .ok (.ifCond .lt 20, 3) := by decide +kernel
theorem dX7_hasLine_51 : decode cX7_hasLine 51 = .ok (.aload_n 0, 1) := by decide +kernel
theorem dX7_hasLine_52 : decode cX7_hasLine 52 = .ok (.getfield 119, 3) := by decide +kernel
theorem dX7_hasLine_55 : decode cX7_hasLine 55 = .ok (.iload 6, 2) := by decide +kernel
theorem dX7_hasLine_57 : decode cX7_hasLine 57 = .ok (.iaload, 1) := by decide +kernel
theorem dX7_hasLine_58 : decode cX7_hasLine 58 = .ok (.aload_n 0, 1) := by decide +kernel
theorem dX7_hasLine_59 : decode cX7_hasLine 59 = .ok (.getfield 119, 3) := by decide +kernel
theorem dX7_hasLine_62 : decode cX7_hasLine 62 = .ok (.iload 5, 2) := by decide +kernel
theorem dX7_hasLine_64 : decode cX7_hasLine 64 = .ok (.iaload, 1) := by decide +kernel
theorem dX7_hasLine_65 : decode cX7_hasLine 65 = .ok (.if_icmp .lt 7, 3) := by decide +kernel
theorem dX7_hasLine_68 : decode cX7_hasLine 68 = .ok (.iload 6, 2) := by decide +kernel
theorem dX7_hasLine_70 : decode cX7_hasLine 70 = .ok (.istore 5, 2) := by decide +kernel
theorem dX7_hasLine_72 : decode cX7_hasLine 72 = .ok (.iinc 6 1, 3) := by decide +kernel
theorem dX7_hasLine_75 : decode cX7_hasLine 75 = .ok (.goto (-69), 3) := by decide +kernel
theorem dX7_hasLine_78 : decode cX7_hasLine 78 = .ok (.iload 5, 2) := by decide +kernel
theorem dX7_hasLine_80 : decode cX7_hasLine 80 = .ok (.ifCond .lt 17, 3) := by decide +kernel
theorem dX7_hasLine_83 : decode cX7_hasLine 83 = .ok (.aload_n 0, 1) := by decide +kernel
theorem dX7_hasLine_84 : decode cX7_hasLine 84 = .ok (.getfield 122, 3) := by decide +kernel
theorem dX7_hasLine_87 : decode cX7_hasLine 87 = .ok (.iload 5, 2) := by decide +kernel
theorem dX7_hasLine_89 : decode cX7_hasLine 89 = .ok (.baload, 1) := by decide +kernel
theorem dX7_hasLine_90 : decode cX7_hasLine 90 = .ok (.ifCond .eq 7, 3) := by decide +kernel
theorem dX7_hasLine_93 : decode cX7_hasLine 93 = .ok (.iconst 1, 1) := by decide +kernel
theorem dX7_hasLine_94 : decode cX7_hasLine 94 = .ok (.goto 4, 3) := by decide +kernel
theorem dX7_hasLine_97 : decode cX7_hasLine 97 = .ok (.iconst 0, 1) := by decide +kernel
theorem dX7_hasLine_98 : decode cX7_hasLine 98 = .ok (.ireturn, 1) := by decide +kernel
theorem dX7_findStock_0 : decode cX7_findStock 0 = .ok (.iconst 0, 1) := by decide +kernel
theorem dX7_findStock_1 : decode cX7_findStock 1 = .ok (.istore 4, 2) := by decide +kernel
theorem dX7_findStock_3 : decode cX7_findStock 3 = .ok (.iload 4, 2) := by decide +kernel
theorem dX7_findStock_5 : decode cX7_findStock 5 = .ok (.bipush 40, 2) := by decide +kernel
theorem dX7_findStock_7 : decode cX7_findStock 7 = .ok (.if_icmp .ge 42, 3) := by decide +kernel
theorem dX7_findStock_10 : decode cX7_findStock 10 = .ok (.aload_n 0, 1) := by decide +kernel
theorem dX7_findStock_11 : decode cX7_findStock 11 = .ok (.getfield 126, 3) := by decide +kernel
theorem dX7_findStock_14 : decode cX7_findStock 14 = .ok (.iload 4, 2) := by decide +kernel
theorem dX7_findStock_16 : decode cX7_findStock 16 = .ok (.iload 4, 2) := by decide +kernel
theorem dX7_findStock_18 : decode cX7_findStock 18 = .ok (.aload_n 0, 1) := by decide +kernel
theorem dX7_findStock_19 : decode cX7_findStock 19 = .ok (.getfield 147, 3) := by decide +kernel
theorem dX7_findStock_22 : decode cX7_findStock 22 = .ok (.if_icmp .ge 19, 3) := by decide +kernel
theorem dX7_findStock_25 : decode cX7_findStock 25 = .ok (.aload_n 0, 1) := by decide +kernel
theorem dX7_findStock_26 : decode cX7_findStock 26 = .ok (.iload_n 1, 1) := by decide +kernel
theorem dX7_findStock_27 : decode cX7_findStock 27 = .ok (.iload 4, 2) := by decide +kernel
theorem dX7_findStock_29 : decode cX7_findStock 29 = .ok (.iload_n 2, 1) := by decide +kernel
theorem dX7_findStock_30 : decode cX7_findStock 30 = .ok (.iload_n 3, 1) := by decide +kernel
theorem dX7_findStock_31 : decode cX7_findStock 31 = .ok (.invokevirtual 322, 3) := by decide +kernel
theorem dX7_findStock_34 : decode cX7_findStock 34 = .ok (.ifCond .eq 7, 3) := by decide +kernel
theorem dX7_findStock_37 : decode cX7_findStock 37 = .ok (.iconst 1, 1) := by decide +kernel
theorem dX7_findStock_38 : decode cX7_findStock 38 = .ok (.goto 4, 3) := by decide +kernel
theorem dX7_findStock_41 : decode cX7_findStock 41 = .ok (.iconst 0, 1) := by decide +kernel
theorem dX7_findStock_42 : decode cX7_findStock 42 = .ok (.bastore, 1) := by decide +kernel
theorem dX7_findStock_43 : decode cX7_findStock 43 = .ok (.iinc 4 1, 3) := by decide +kernel
theorem dX7_findStock_46 : decode cX7_findStock 46 = .ok (.goto (-43), 3) := by decide +kernel
theorem dX7_findStock_49 : decode cX7_findStock 49 = .ok (.return_, 1) := by decide +kernel
theorem dX7_has_0 : decode cX7_has 0 = .ok (.aload_n 0, 1) := by decide +kernel
theorem dX7_has_1 : decode cX7_has 1 = .ok (.iload_n 1, 1) := by decide +kernel
theorem dX7_has_2 : decode cX7_has 2 = .ok (.invokevirtual 260, 3) := by decide +kernel
theorem dX7_has_5 : decode cX7_has 5 = .ok (.ifCond .eq 20, 3) := by decide +kernel
theorem dX7_has_8 : decode cX7_has 8 = .ok (.aload_n 0, 1) := by decide +kernel
theorem dX7_has_9 : decode cX7_has 9 = .ok (.iload_n 2, 1) := by decide +kernel
theorem dX7_has_10 : decode cX7_has 10 = .ok (.invokevirtual 186, 3) := by decide +kernel
theorem dX7_has_13 : decode cX7_has 13 = .ok (.ifCond .eq 12, 3) := by decide +kernel
theorem dX7_has_16 : decode cX7_has 16 = .ok (.aload_n 0, 1) := by decide +kernel
theorem dX7_has_17 : decode cX7_has 17 = .ok (.iload 4, 2) := by decide +kernel
theorem dX7_has_19 : decode cX7_has 19 = .ok (.invokevirtual 326, 3) := by decide +kernel
theorem dX7_has_22 : decode cX7_has 22 = .ok (.ifCond .ne 5, 3) := by decide +kernel
theorem dX7_has_25 : decode cX7_has 25 = .ok (.iconst (-1), 1) := by decide +kernel
theorem dX7_has_26 : decode cX7_has 26 = .ok (.ireturn, 1) := by decide +kernel
theorem dX7_has_27 : decode cX7_has 27 = .ok (.iload_n 3, 1) := by decide +kernel
theorem dX7_has_28 : decode cX7_has 28 = .ok (.invokestatic 263, 3) := by decide +kernel
theorem dX7_has_31 : decode cX7_has 31 = .ok (.ifCond .ne 6, 3) := by decide +kernel
theorem dX7_has_34 : decode cX7_has 34 = .ok (.bipush (-2), 2) := by decide +kernel
theorem dX7_has_36 : decode cX7_has 36 = .ok (.ireturn, 1) := by decide +kernel
theorem dX7_has_37 : decode cX7_has 37 = .ok (.aload_n 0, 1) := by decide +kernel
theorem dX7_has_38 : decode cX7_has 38 = .ok (.iload_n 1, 1) := by decide +kernel
theorem dX7_has_39 : decode cX7_has 39 = .ok (.iload_n 2, 1) := by decide +kernel
theorem dX7_has_40 : decode cX7_has 40 = .ok (.iload_n 3, 1) := by decide +kernel
theorem dX7_has_41 : decode cX7_has 41 = .ok (.aload_n 0, 1) := by decide +kernel
theorem dX7_has_42 : decode cX7_has 42 = .ok (.iload 4, 2) := by decide +kernel
theorem dX7_has_44 : decode cX7_has 44 = .ok (.invokevirtual 329, 3) := by decide +kernel
theorem dX7_has_47 : decode cX7_has 47 = .ok (.invokevirtual 322, 3) := by decide +kernel
theorem dX7_has_50 : decode cX7_has 50 = .ok (.ifCond .eq 7, 3) := by decide +kernel
theorem dX7_has_53 : decode cX7_has 53 = .ok (.iconst 1, 1) := by decide +kernel
theorem dX7_has_54 : decode cX7_has 54 = .ok (.goto 4, 3) := by decide +kernel
theorem dX7_has_57 : decode cX7_has 57 = .ok (.iconst 0, 1) := by decide +kernel
theorem dX7_has_58 : decode cX7_has 58 = .ok (.ireturn, 1) := by decide +kernel
theorem dX7_stock_0 : decode cX7_stock 0 = .ok (.aload_n 0, 1) := by decide +kernel
theorem dX7_stock_1 : decode cX7_stock 1 = .ok (.iload_n 1, 1) := by decide +kernel
theorem dX7_stock_2 : decode cX7_stock 2 = .ok (.invokevirtual 260, 3) := by decide +kernel
theorem dX7_stock_5 : decode cX7_stock 5 = .ok (.ifCond .eq 11, 3) := by decide +kernel
theorem dX7_stock_8 : decode cX7_stock 8 = .ok (.aload_n 0, 1) := by decide +kernel
theorem dX7_stock_9 : decode cX7_stock 9 = .ok (.iload_n 3, 1) := by decide +kernel
theorem dX7_stock_10 : decode cX7_stock 10 = .ok (.invokevirtual 326, 3) := by decide +kernel
theorem dX7_stock_13 : decode cX7_stock 13 = .ok (.ifCond .ne 5, 3) := by decide +kernel
theorem dX7_stock_16 : decode cX7_stock 16 = .ok (.iconst (-1), 1) := by decide +kernel
theorem dX7_stock_17 : decode cX7_stock 17 = .ok (.ireturn, 1) := by decide +kernel
theorem dX7_stock_18 : decode cX7_stock 18 = .ok (.iload_n 2, 1) := by decide +kernel
theorem dX7_stock_19 : decode cX7_stock 19 = .ok (.invokestatic 263, 3) := by decide +kernel
theorem dX7_stock_22 : decode cX7_stock 22 = .ok (.ifCond .ne 6, 3) := by decide +kernel
theorem dX7_stock_25 : decode cX7_stock 25 = .ok (.bipush (-2), 2) := by decide +kernel
theorem dX7_stock_27 : decode cX7_stock 27 = .ok (.ireturn, 1) := by decide +kernel
theorem dX7_stock_28 : decode cX7_stock 28 = .ok (.iconst 0, 1) := by decide +kernel
theorem dX7_stock_29 : decode cX7_stock 29 = .ok (.istore 4, 2) := by decide +kernel
theorem dX7_stock_31 : decode cX7_stock 31 = .ok (.iconst 0, 1) := by decide +kernel
theorem dX7_stock_32 : decode cX7_stock 32 = .ok (.istore 5, 2) := by decide +kernel
theorem dX7_stock_34 : decode cX7_stock 34 = .ok (.iload 5, 2) := by decide +kernel
theorem dX7_stock_36 : decode cX7_stock 36 = .ok (.aload_n 0, 1) := by decide +kernel
theorem dX7_stock_37 : decode cX7_stock 37 = .ok (.getfield 147, 3) := by decide +kernel
theorem dX7_stock_40 : decode cX7_stock 40 = .ok (.if_icmp .ge 35, 3) := by decide +kernel
theorem dX7_stock_43 : decode cX7_stock 43 = .ok (.iload 4, 2) := by decide +kernel
theorem dX7_stock_45 : decode cX7_stock 45 = .ok (.aload_n 0, 1) := by decide +kernel
theorem dX7_stock_46 : decode cX7_stock 46 = .ok (.iload_n 1, 1) := by decide +kernel
theorem dX7_stock_47 : decode cX7_stock 47 = .ok (.iload 5, 2) := by decide +kernel
theorem dX7_stock_49 : decode cX7_stock 49 = .ok (.iload_n 2, 1) := by decide +kernel
theorem dX7_stock_50 : decode cX7_stock 50 = .ok (.aload_n 0, 1) := by decide +kernel
theorem dX7_stock_51 : decode cX7_stock 51 = .ok (.iload_n 3, 1) := by decide +kernel
theorem dX7_stock_52 : decode cX7_stock 52 = .ok (.invokevirtual 329, 3) := by decide +kernel
theorem dX7_stock_55 : decode cX7_stock 55 = .ok (.invokevirtual 322, 3) := by decide +kernel
theorem dX7_stock_58 : decode cX7_stock 58 = .ok (.ifCond .eq 7, 3) := by decide +kernel
theorem dX7_stock_61 : decode cX7_stock 61 = .ok (.iconst 1, 1) := by decide +kernel
theorem dX7_stock_62 : decode cX7_stock 62 = .ok (.goto 4, 3) := by decide +kernel
theorem dX7_stock_65 : decode cX7_stock 65 = .ok (.iconst 0, 1) := by decide +kernel
theorem dX7_stock_66 : decode cX7_stock 66 = .ok (.iadd, 1) := by decide +kernel
theorem dX7_stock_67 : decode cX7_stock 67 = .ok (.istore 4, 2) := by decide +kernel
theorem dX7_stock_69 : decode cX7_stock 69 = .ok (.iinc 5 1, 3) := by decide +kernel
theorem dX7_stock_72 : decode cX7_stock 72 = .ok (.goto (-38), 3) := by decide +kernel
theorem dX7_stock_75 : decode cX7_stock 75 = .ok (.iload 4, 2) := by decide +kernel
theorem dX7_stock_77 : decode cX7_stock 77 = .ok (.ireturn, 1) := by decide +kernel
theorem dX7_unlikeBy_0 : decode cX7_unlikeBy 0 = .ok (.iconst 0, 1) := by decide +kernel
theorem dX7_unlikeBy_1 : decode cX7_unlikeBy 1 = .ok (.istore 5, 2) := by decide +kernel
theorem dX7_unlikeBy_3 : decode cX7_unlikeBy 3 = .ok (.iconst 0, 1) := by decide +kernel
theorem dX7_unlikeBy_4 : decode cX7_unlikeBy 4 = .ok (.istore 6, 2) := by decide +kernel
theorem dX7_unlikeBy_6 : decode cX7_unlikeBy 6 = .ok (.iload 6, 2) := by decide +kernel
theorem dX7_unlikeBy_8 : decode cX7_unlikeBy 8 = .ok (.aload_n 0, 1) := by decide +kernel
theorem dX7_unlikeBy_9 : decode cX7_unlikeBy 9 = .ok (.getfield 147, 3) := by decide +kernel
theorem dX7_unlikeBy_12 : decode cX7_unlikeBy 12 = .ok (.if_icmp .ge 42, 3) := by decide +kernel
theorem dX7_unlikeBy_15 : decode cX7_unlikeBy 15 = .ok (.iload 5, 2) := by decide +kernel
theorem dX7_unlikeBy_17 : decode cX7_unlikeBy 17 = .ok (.aload_n 0, 1) := by decide +kernel
theorem dX7_unlikeBy_18 : decode cX7_unlikeBy 18 = .ok (.iload_n 1, 1) := by decide +kernel
theorem dX7_unlikeBy_19 : decode cX7_unlikeBy 19 = .ok (.iload 6, 2) := by decide +kernel
theorem dX7_unlikeBy_21 : decode cX7_unlikeBy 21 = .ok (.iload_n 3, 1) := by decide +kernel
theorem dX7_unlikeBy_22 : decode cX7_unlikeBy 22 = .ok (.iload 4, 2) := by decide +kernel
theorem dX7_unlikeBy_24 : decode cX7_unlikeBy 24 = .ok (.invokevirtual 322, 3) := by decide +kernel
theorem dX7_unlikeBy_27 : decode cX7_unlikeBy 27 = .ok (.aload_n 0, 1) := by decide +kernel
theorem dX7_unlikeBy_28 : decode cX7_unlikeBy 28 = .ok (.iload_n 2, 1) := by decide +kernel
theorem dX7_unlikeBy_29 : decode cX7_unlikeBy 29 = .ok (.iload 6, 2) := by decide +kernel
theorem dX7_unlikeBy_31 : decode cX7_unlikeBy 31 = .ok (.iload_n 3, 1) := by decide +kernel
theorem dX7_unlikeBy_32 : decode cX7_unlikeBy 32 = .ok (.iload 4, 2) := by decide +kernel
theorem dX7_unlikeBy_34 : decode cX7_unlikeBy 34 = .ok (.invokevirtual 322, 3) := by decide +kernel
theorem dX7_unlikeBy_37 : decode cX7_unlikeBy 37 = .ok (.if_icmp .eq 7, 3) := by decide +kernel
theorem dX7_unlikeBy_40 : decode cX7_unlikeBy 40 = .ok (.iconst 1, 1) := by decide +kernel
theorem dX7_unlikeBy_41 : decode cX7_unlikeBy 41 = .ok (.goto 4, 3) := by decide +kernel
theorem dX7_unlikeBy_44 : decode cX7_unlikeBy 44 = .ok (.iconst 0, 1) := by decide +kernel
theorem dX7_unlikeBy_45 : decode cX7_unlikeBy 45 = .ok (.iadd, 1) := by decide +kernel
theorem dX7_unlikeBy_46 : decode cX7_unlikeBy 46 = .ok (.istore 5, 2) := by decide +kernel
theorem dX7_unlikeBy_48 : decode cX7_unlikeBy 48 = .ok (.iinc 6 1, 3) := by decide +kernel
theorem dX7_unlikeBy_51 : decode cX7_unlikeBy 51 = .ok (.goto (-45), 3) := by decide +kernel
theorem dX7_unlikeBy_54 : decode cX7_unlikeBy 54 = .ok (.iload 5, 2) := by decide +kernel
theorem dX7_unlikeBy_56 : decode cX7_unlikeBy 56 = .ok (.ireturn, 1) := by decide +kernel
theorem dX7_unlike_0 : decode cX7_unlike 0 = .ok (.aload_n 0, 1) := by decide +kernel
theorem dX7_unlike_1 : decode cX7_unlike 1 = .ok (.iload_n 1, 1) := by decide +kernel
theorem dX7_unlike_2 : decode cX7_unlike 2 = .ok (.invokevirtual 260, 3) := by decide +kernel
theorem dX7_unlike_5 : decode cX7_unlike 5 = .ok (.ifCond .eq 20, 3) := by decide +kernel
theorem dX7_unlike_8 : decode cX7_unlike 8 = .ok (.aload_n 0, 1) := by decide +kernel
theorem dX7_unlike_9 : decode cX7_unlike 9 = .ok (.iload_n 2, 1) := by decide +kernel
theorem dX7_unlike_10 : decode cX7_unlike 10 = .ok (.invokevirtual 260, 3) := by decide +kernel
theorem dX7_unlike_13 : decode cX7_unlike 13 = .ok (.ifCond .eq 12, 3) := by decide +kernel
theorem dX7_unlike_16 : decode cX7_unlike 16 = .ok (.aload_n 0, 1) := by decide +kernel
theorem dX7_unlike_17 : decode cX7_unlike 17 = .ok (.iload 4, 2) := by decide +kernel
theorem dX7_unlike_19 : decode cX7_unlike 19 = .ok (.invokevirtual 326, 3) := by decide +kernel
theorem dX7_unlike_22 : decode cX7_unlike 22 = .ok (.ifCond .ne 5, 3) := by decide +kernel
theorem dX7_unlike_25 : decode cX7_unlike 25 = .ok (.iconst (-1), 1) := by decide +kernel
theorem dX7_unlike_26 : decode cX7_unlike 26 = .ok (.ireturn, 1) := by decide +kernel
theorem dX7_unlike_27 : decode cX7_unlike 27 = .ok (.iload_n 3, 1) := by decide +kernel
theorem dX7_unlike_28 : decode cX7_unlike 28 = .ok (.invokestatic 263, 3) := by decide +kernel
theorem dX7_unlike_31 : decode cX7_unlike 31 = .ok (.ifCond .eq 19, 3) := by decide +kernel
theorem dX7_unlike_34 : decode cX7_unlike 34 = .ok (.aload_n 0, 1) := by decide +kernel
theorem dX7_unlike_35 : decode cX7_unlike 35 = .ok (.iload_n 1, 1) := by decide +kernel
theorem dX7_unlike_36 : decode cX7_unlike 36 = .ok (.iload_n 2, 1) := by decide +kernel
theorem dX7_unlike_37 : decode cX7_unlike 37 = .ok (.iload_n 3, 1) := by decide +kernel
theorem dX7_unlike_38 : decode cX7_unlike 38 = .ok (.aload_n 0, 1) := by decide +kernel
theorem dX7_unlike_39 : decode cX7_unlike 39 = .ok (.iload 4, 2) := by decide +kernel
theorem dX7_unlike_41 : decode cX7_unlike 41 = .ok (.invokevirtual 329, 3) := by decide +kernel
theorem dX7_unlike_44 : decode cX7_unlike 44 = .ok (.invokevirtual 332, 3) := by decide +kernel
theorem dX7_unlike_47 : decode cX7_unlike 47 = .ok (.goto 5, 3) := by decide +kernel
theorem dX7_unlike_50 : decode cX7_unlike 50 = .ok (.bipush (-2), 2) := by decide +kernel
theorem dX7_unlike_52 : decode cX7_unlike 52 = .ok (.ireturn, 1) := by decide +kernel
theorem dX7_masterOf_0 : decode cX7_masterOf 0 = .ok (.iconst (-1), 1) := by decide +kernel
theorem dX7_masterOf_1 : decode cX7_masterOf 1 = .ok (.istore 4, 2) := by decide +kernel
theorem dX7_masterOf_3 : decode cX7_masterOf 3 = .ok (.iconst 0, 1) := by decide +kernel
theorem dX7_masterOf_4 : decode cX7_masterOf 4 = .ok (.istore 5, 2) := by decide +kernel
theorem dX7_masterOf_6 : decode cX7_masterOf 6 = .ok (.iconst 0, 1) := by decide +kernel
theorem dX7_masterOf_7 : decode cX7_masterOf 7 = .ok (.istore 6, 2) := by decide +kernel
theorem dX7_masterOf_9 : decode cX7_masterOf 9 = .ok (.iload 6, 2) := by decide +kernel
theorem dX7_masterOf_11 : decode cX7_masterOf 11 = .ok (.aload_n 0, 1) := by decide +kernel
theorem dX7_masterOf_12 : decode cX7_masterOf 12 = .ok (.getfield 313, 3) := by decide +kernel
theorem dX7_masterOf_15 : decode cX7_masterOf 15 = .ok (.if_icmp .ge 86, 3) := by decide +kernel
theorem dX7_masterOf_18 : decode cX7_masterOf 18 = .ok (.aload_n 0, 1) := by decide +kernel
theorem dX7_masterOf_19 : decode cX7_masterOf 19 = .ok (.getfield 107, 3) := by decide +kernel
theorem dX7_masterOf_22 : decode cX7_masterOf 22 = .ok (.iload 6, 2) := by decide +kernel
theorem dX7_masterOf_24 : decode cX7_masterOf 24 = .ok (.iaload, 1) := by decide +kernel
theorem dX7_masterOf_25 : decode cX7_masterOf 25 = .ok (.aload_n 0, 1) := by decide +kernel
theorem dX7_masterOf_26 : decode cX7_masterOf 26 = .ok (.getfield 107, 3) := by decide +kernel
theorem dX7_masterOf_29 : decode cX7_masterOf 29 = .ok (.iload_n 1, 1) := by decide +kernel
theorem dX7_masterOf_30 : decode cX7_masterOf 30 = .ok (.iaload, 1) := by decide +kernel
theorem dX7_masterOf_31 : decode cX7_masterOf 31 = .ok (.if_icmp .lt 6, 3) := by decide +kernel
theorem dX7_masterOf_34 : decode cX7_masterOf 34 = .ok (.goto 61, 3) := by decide +kernel
theorem dX7_masterOf_37 : decode cX7_masterOf 37 = .ok (.aload_n 0, 1) := by decide +kernel
theorem dX7_masterOf_38 : decode cX7_masterOf 38 = .ok (.iload_n 1, 1) := by decide +kernel
theorem dX7_masterOf_39 : decode cX7_masterOf 39 = .ok (.iload 6, 2) := by decide +kernel
theorem dX7_masterOf_41 : decode cX7_masterOf 41 = .ok (.iload_n 2, 1) := by decide +kernel
theorem dX7_masterOf_42 : decode cX7_masterOf 42 = .ok (.iload_n 3, 1) := by decide +kernel
theorem dX7_masterOf_43 : decode cX7_masterOf 43 = .ok (.invokevirtual 332, 3) := by decide +kernel
theorem dX7_masterOf_46 : decode cX7_masterOf 46 = .ok (.istore 7, 2) := by decide +kernel
theorem dX7_masterOf_48 : decode cX7_masterOf 48 = .ok (.iload 4, 2) := by decide +kernel
theorem dX7_masterOf_50 : decode cX7_masterOf 50 = .ok (.ifCond .lt 37, 3) := by decide +kernel
theorem dX7_masterOf_53 : decode cX7_masterOf 53 = .ok (.iload 7, 2) := by decide +kernel
theorem dX7_masterOf_55 : decode cX7_masterOf 55 = .ok (.iload 5, 2) := by decide +kernel
theorem dX7_masterOf_57 : decode cX7_masterOf 57 = .ok (.if_icmp .gt 38, 3) := by decide +kernel
theorem dX7_masterOf_60 : decode cX7_masterOf 60 = .ok (.iload 7, 2) := by decide +kernel
theorem dX7_masterOf_62 : decode cX7_masterOf 62 = .ok (.iload 5, 2) := by decide +kernel
theorem dX7_masterOf_64 : decode cX7_masterOf 64 = .ok (.if_icmp .ne 23, 3) := by decide +kernel
theorem dX7_masterOf_67 : decode cX7_masterOf 67 = .ok (.aload_n 0, 1) := by decide +kernel
theorem dX7_masterOf_68 : decode cX7_masterOf 68 = .ok (.getfield 107, 3) := by decide +kernel
theorem dX7_masterOf_71 : decode cX7_masterOf 71 = .ok (.iload 6, 2) := by decide +kernel
theorem dX7_masterOf_73 : decode cX7_masterOf 73 = .ok (.iaload, 1) := by decide +kernel
theorem dX7_masterOf_74 : decode cX7_masterOf 74 = .ok (.aload_n 0, 1) := by decide +kernel
theorem dX7_masterOf_75 : decode cX7_masterOf 75 = .ok (.getfield 107, 3) := by decide +kernel
theorem dX7_masterOf_78 : decode cX7_masterOf 78 = .ok (.iload 4, 2) := by decide +kernel
theorem dX7_masterOf_80 : decode cX7_masterOf 80 = .ok (.iaload, 1) := by decide +kernel
theorem dX7_masterOf_81 : decode cX7_masterOf 81 = .ok (.if_icmp .gt 6, 3) := by decide +kernel
theorem dX7_masterOf_84 : decode cX7_masterOf 84 = .ok (.goto 11, 3) := by decide +kernel
theorem dX7_masterOf_87 : decode cX7_masterOf 87 = .ok (.iload 6, 2) := by decide +kernel
theorem dX7_masterOf_89 : decode cX7_masterOf 89 = .ok (.istore 4, 2) := by decide +kernel
theorem dX7_masterOf_91 : decode cX7_masterOf 91 = .ok (.iload 7, 2) := by decide +kernel
theorem dX7_masterOf_93 : decode cX7_masterOf 93 = .ok (.istore 5, 2) := by decide +kernel
theorem dX7_masterOf_95 : decode cX7_masterOf 95 = .ok (.iinc 6 1, 3) := by decide +kernel
theorem dX7_masterOf_98 : decode cX7_masterOf 98 = .ok (.goto (-89), 3) := by decide +kernel
theorem dX7_masterOf_101 : decode cX7_masterOf 101 = .ok (.iload 4, 2) := by decide +kernel
theorem dX7_masterOf_103 : decode cX7_masterOf 103 = .ok (.ireturn, 1) := by decide +kernel
theorem dX7_master_0 : decode cX7_master 0 = .ok (.aload_n 0, 1) := by decide +kernel
theorem dX7_master_1 : decode cX7_master 1 = .ok (.iload_n 1, 1) := by decide +kernel
theorem dX7_master_2 : decode cX7_master 2 = .ok (.invokevirtual 260, 3) := by decide +kernel
theorem dX7_master_5 : decode cX7_master 5 = .ok (.ifCond .eq 11, 3) := by decide +kernel
theorem dX7_master_8 : decode cX7_master 8 = .ok (.aload_n 0, 1) := by decide +kernel
theorem dX7_master_9 : decode cX7_master 9 = .ok (.iload_n 3, 1) := by decide +kernel
theorem dX7_master_10 : decode cX7_master 10 = .ok (.invokevirtual 326, 3) := by decide +kernel
theorem dX7_master_13 : decode cX7_master 13 = .ok (.ifCond .ne 5, 3) := by decide +kernel
theorem dX7_master_16 : decode cX7_master 16 = .ok (.iconst (-1), 1) := by decide +kernel
theorem dX7_master_17 : decode cX7_master 17 = .ok (.ireturn, 1) := by decide +kernel
theorem dX7_master_18 : decode cX7_master 18 = .ok (.iload_n 2, 1) := by decide +kernel
theorem dX7_master_19 : decode cX7_master 19 = .ok (.invokestatic 263, 3) := by decide +kernel
theorem dX7_master_22 : decode cX7_master 22 = .ok (.ifCond .ne 6, 3) := by decide +kernel
theorem dX7_master_25 : decode cX7_master 25 = .ok (.bipush (-2), 2) := by decide +kernel
theorem dX7_master_27 : decode cX7_master 27 = .ok (.ireturn, 1) := by decide +kernel
theorem dX7_master_28 : decode cX7_master 28 = .ok (.aload_n 0, 1) := by decide +kernel
theorem dX7_master_29 : decode cX7_master 29 = .ok (.iload_n 1, 1) := by decide +kernel
theorem dX7_master_30 : decode cX7_master 30 = .ok (.iload_n 2, 1) := by decide +kernel
theorem dX7_master_31 : decode cX7_master 31 = .ok (.aload_n 0, 1) := by decide +kernel
theorem dX7_master_32 : decode cX7_master 32 = .ok (.iload_n 3, 1) := by decide +kernel
theorem dX7_master_33 : decode cX7_master 33 = .ok (.invokevirtual 329, 3) := by decide +kernel
theorem dX7_master_36 : decode cX7_master 36 = .ok (.invokevirtual 336, 3) := by decide +kernel
theorem dX7_master_39 : decode cX7_master 39 = .ok (.istore 4, 2) := by decide +kernel
theorem dX7_master_41 : decode cX7_master 41 = .ok (.iload 4, 2) := by decide +kernel
theorem dX7_master_43 : decode cX7_master 43 = .ok (.ifCond .ge 8, 3) := by decide +kernel
theorem dX7_master_46 : decode cX7_master 46 = .ok (.bipush (-5), 2) := by decide +kernel
theorem dX7_master_48 : decode cX7_master 48 = .ok (.goto 5, 3) := by decide +kernel
theorem dX7_master_51 : decode cX7_master 51 = .ok (.iload 4, 2) := by decide +kernel
theorem dX7_master_53 : decode cX7_master 53 = .ok (.ireturn, 1) := by decide +kernel
theorem dX7_lineage_0 : decode cX7_lineage 0 = .ok (.aload_n 0, 1) := by decide +kernel
theorem dX7_lineage_1 : decode cX7_lineage 1 = .ok (.iload_n 2, 1) := by decide +kernel
theorem dX7_lineage_2 : decode cX7_lineage 2 = .ok (.invokevirtual 326, 3) := by decide +kernel
theorem dX7_lineage_5 : decode cX7_lineage 5 = .ok (.ifCond .ne 5, 3) := by decide +kernel
theorem dX7_lineage_8 : decode cX7_lineage 8 = .ok (.iconst (-1), 1) := by decide +kernel
theorem dX7_lineage_9 : decode cX7_lineage 9 = .ok (.ireturn, 1) := by decide +kernel
theorem dX7_lineage_10 : decode cX7_lineage 10 = .ok (.iload_n 1, 1) := by decide +kernel
theorem dX7_lineage_11 : decode cX7_lineage 11 = .ok (.invokestatic 263, 3) := by decide +kernel
theorem dX7_lineage_14 : decode cX7_lineage 14 = .ok (.ifCond .ne 6, 3) := by decide +kernel
theorem dX7_lineage_17 : decode cX7_lineage 17 = .ok (.bipush (-2), 2) := by decide +kernel
theorem dX7_lineage_19 : decode cX7_lineage 19 = .ok (.ireturn, 1) := by decide +kernel
theorem dX7_lineage_20 : decode cX7_lineage 20 = .ok (.iconst 0, 1) := by decide +kernel
theorem dX7_lineage_21 : decode cX7_lineage 21 = .ok (.istore_n 3, 1) := by decide +kernel
theorem dX7_lineage_22 : decode cX7_lineage 22 = .ok (.iconst 0, 1) := by decide +kernel
theorem dX7_lineage_23 : decode cX7_lineage 23 = .ok (.istore 4, 2) := by decide +kernel
theorem dX7_lineage_25 : decode cX7_lineage 25 = .ok (.iload 4, 2) := by decide +kernel
theorem dX7_lineage_27 : decode cX7_lineage 27 = .ok (.aload_n 0, 1) := by decide +kernel
theorem dX7_lineage_28 : decode cX7_lineage 28 = .ok (.getfield 313, 3) := by decide +kernel
theorem dX7_lineage_31 : decode cX7_lineage 31 = .ok (.if_icmp .ge 49, 3) := by decide +kernel
theorem dX7_lineage_34 : decode cX7_lineage 34 = .ok (.aload_n 0, 1) := by decide +kernel
theorem dX7_lineage_35 : decode cX7_lineage 35 = .ok (.iload 4, 2) := by decide +kernel
theorem dX7_lineage_37 : decode cX7_lineage 37 = .ok (.iload_n 1, 1) := by decide +kernel
theorem dX7_lineage_38 : decode cX7_lineage 38 = .ok (.aload_n 0, 1) := by decide +kernel
theorem dX7_lineage_39 : decode cX7_lineage 39 = .ok (.iload_n 2, 1) := by decide +kernel
theorem dX7_lineage_40 : decode cX7_lineage 40 = .ok (.invokevirtual 329, 3) := by decide +kernel
theorem dX7_lineage_43 : decode cX7_lineage 43 = .ok (.invokevirtual 336, 3) := by decide +kernel
theorem dX7_lineage_46 : decode cX7_lineage 46 = .ok (.istore 5, 2) := by decide +kernel
theorem dX7_lineage_48 : decode cX7_lineage 48 = .ok (.iload_n 3, 1) := by decide +kernel
theorem dX7_lineage_49 : decode cX7_lineage 49 = .ok (.iload 5, 2) := by decide +kernel
theorem dX7_lineage_51 : decode cX7_lineage 51 = .ok (.ifCond .ge 7, 3) := by decide +kernel
theorem dX7_lineage_54 : decode cX7_lineage 54 = .ok (.iconst 0, 1) := by decide +kernel
theorem dX7_lineage_55 : decode cX7_lineage 55 = .ok (.goto 17, 3) := by decide +kernel
theorem dX7_lineage_58 : decode cX7_lineage 58 = .ok (.aload_n 0, 1) := by decide +kernel
theorem dX7_lineage_59 : decode cX7_lineage 59 = .ok (.iload 4, 2) := by decide +kernel
theorem dX7_lineage_61 : decode cX7_lineage 61 = .ok (.iload 5, 2) := by decide +kernel
theorem dX7_lineage_63 : decode cX7_lineage 63 = .ok (.iload_n 1, 1) := by decide +kernel
theorem dX7_lineage_64 : decode cX7_lineage 64 = .ok (.aload_n 0, 1) := by decide +kernel
theorem dX7_lineage_65 : decode cX7_lineage 65 = .ok (.iload_n 2, 1) := by decide +kernel
theorem dX7_lineage_66 : decode cX7_lineage 66 = .ok (.invokevirtual 329, 3) := by decide +kernel
theorem dX7_lineage_69 : decode cX7_lineage 69 = .ok (.invokevirtual 332, 3) := by decide +kernel
theorem dX7_lineage_72 : decode cX7_lineage 72 = .ok (.iadd, 1) := by decide +kernel
theorem dX7_lineage_73 : decode cX7_lineage 73 = .ok (.istore_n 3, 1) := by decide +kernel
theorem dX7_lineage_74 : decode cX7_lineage 74 = .ok (.iinc 4 1, 3) := by decide +kernel
theorem dX7_lineage_77 : decode cX7_lineage 77 = .ok (.goto (-52), 3) := by decide +kernel
theorem dX7_lineage_80 : decode cX7_lineage 80 = .ok (.iload_n 3, 1) := by decide +kernel
theorem dX7_lineage_81 : decode cX7_lineage 81 = .ok (.ireturn, 1) := by decide +kernel
theorem dX7_loan_0 : decode cX7_loan 0 = .ok (.aload_n 0, 1) := by decide +kernel
theorem dX7_loan_1 : decode cX7_loan 1 = .ok (.iload_n 1, 1) := by decide +kernel
theorem dX7_loan_2 : decode cX7_loan 2 = .ok (.invokevirtual 260, 3) := by decide +kernel
theorem dX7_loan_5 : decode cX7_loan 5 = .ok (.ifCond .eq 20, 3) := by decide +kernel
theorem dX7_loan_8 : decode cX7_loan 8 = .ok (.aload_n 0, 1) := by decide +kernel
theorem dX7_loan_9 : decode cX7_loan 9 = .ok (.iload_n 2, 1) := by decide +kernel
theorem dX7_loan_10 : decode cX7_loan 10 = .ok (.invokevirtual 260, 3) := by decide +kernel
theorem dX7_loan_13 : decode cX7_loan 13 = .ok (.ifCond .eq 12, 3) := by decide +kernel
theorem dX7_loan_16 : decode cX7_loan 16 = .ok (.aload_n 0, 1) := by decide +kernel
theorem dX7_loan_17 : decode cX7_loan 17 = .ok (.iload 4, 2) := by decide +kernel
theorem dX7_loan_19 : decode cX7_loan 19 = .ok (.invokevirtual 326, 3) := by decide +kernel
theorem dX7_loan_22 : decode cX7_loan 22 = .ok (.ifCond .ne 5, 3) := by decide +kernel
theorem dX7_loan_25 : decode cX7_loan 25 = .ok (.iconst (-1), 1) := by decide +kernel
theorem dX7_loan_26 : decode cX7_loan 26 = .ok (.ireturn, 1) := by decide +kernel
theorem dX7_loan_27 : decode cX7_loan 27 = .ok (.iload_n 3, 1) := by decide +kernel
theorem dX7_loan_28 : decode cX7_loan 28 = .ok (.invokestatic 263, 3) := by decide +kernel
theorem dX7_loan_31 : decode cX7_loan 31 = .ok (.ifCond .eq 8, 3) := by decide +kernel
theorem dX7_loan_34 : decode cX7_loan 34 = .ok (.iload_n 1, 1) := by decide +kernel
theorem dX7_loan_35 : decode cX7_loan 35 = .ok (.iload_n 2, 1) := by decide +kernel
theorem dX7_loan_36 : decode cX7_loan 36 = .ok (.if_icmp .ne 6, 3) := by decide +kernel
theorem dX7_loan_39 : decode cX7_loan 39 = .ok (.bipush (-2), 2) := by decide +kernel
theorem dX7_loan_41 : decode cX7_loan 41 = .ok (.ireturn, 1) := by decide +kernel
theorem dX7_loan_42 : decode cX7_loan 42 = .ok (.aload_n 0, 1) := by decide +kernel
theorem dX7_loan_43 : decode cX7_loan 43 = .ok (.iload 4, 2) := by decide +kernel
theorem dX7_loan_45 : decode cX7_loan 45 = .ok (.invokevirtual 329, 3) := by decide +kernel
theorem dX7_loan_48 : decode cX7_loan 48 = .ok (.istore 5, 2) := by decide +kernel
theorem dX7_loan_50 : decode cX7_loan 50 = .ok (.aload_n 0, 1) := by decide +kernel
theorem dX7_loan_51 : decode cX7_loan 51 = .ok (.iload_n 1, 1) := by decide +kernel
theorem dX7_loan_52 : decode cX7_loan 52 = .ok (.iload_n 3, 1) := by decide +kernel
theorem dX7_loan_53 : decode cX7_loan 53 = .ok (.iload 5, 2) := by decide +kernel
theorem dX7_loan_55 : decode cX7_loan 55 = .ok (.invokevirtual 336, 3) := by decide +kernel
theorem dX7_loan_58 : decode cX7_loan 58 = .ok (.istore 6, 2) := by decide +kernel
theorem dX7_loan_60 : decode cX7_loan 60 = .ok (.aload_n 0, 1) := by decide +kernel
theorem dX7_loan_61 : decode cX7_loan 61 = .ok (.iload_n 2, 1) := by decide +kernel
theorem dX7_loan_62 : decode cX7_loan 62 = .ok (.iload_n 3, 1) := by decide +kernel
theorem dX7_loan_63 : decode cX7_loan 63 = .ok (.iload 5, 2) := by decide +kernel
theorem dX7_loan_65 : decode cX7_loan 65 = .ok (.invokevirtual 336, 3) := by decide +kernel
theorem dX7_loan_68 : decode cX7_loan 68 = .ok (.istore 7, 2) := by decide +kernel
theorem dX7_loan_70 : decode cX7_loan 70 = .ok (.iconst 0, 1) := by decide +kernel
theorem dX7_loan_71 : decode cX7_loan 71 = .ok (.istore 8, 2) := by decide +kernel
theorem dX7_loan_73 : decode cX7_loan 73 = .ok (.iconst 0, 1) := by decide +kernel
theorem dX7_loan_74 : decode cX7_loan 74 = .ok (.istore 9, 2) := by decide +kernel
theorem dX7_loan_76 : decode cX7_loan 76 = .ok (.iload 9, 2) := by decide +kernel
theorem dX7_loan_78 : decode cX7_loan 78 = .ok (.aload_n 0, 1) := by decide +kernel
theorem dX7_loan_79 : decode cX7_loan 79 = .ok (.getfield 147, 3) := by decide +kernel
theorem dX7_loan_82 : decode cX7_loan 82 = .ok (.if_icmp .ge 128, 3) := by decide +kernel
theorem dX7_loan_85 : decode cX7_loan 85 = .ok (.aload_n 0, 1) := by decide +kernel
theorem dX7_loan_86 : decode cX7_loan 86 = .ok (.getfield 37, 3) := by decide +kernel
theorem dX7_loan_89 : decode cX7_loan 89 = .ok (.iload 9, 2) := by decide +kernel
theorem dX7_loan_91 : decode cX7_loan 91 = .ok (.iaload, 1) := by decide +kernel
theorem dX7_loan_92 : decode cX7_loan 92 = .ok (.iconst 1, 1) := by decide +kernel
theorem dX7_loan_93 : decode cX7_loan 93 = .ok (.if_icmp .ne 33, 3) := by decide +kernel
theorem dX7_loan_96 : decode cX7_loan 96 = .ok (.aload_n 0, 1) := by decide +kernel
theorem dX7_loan_97 : decode cX7_loan 97 = .ok (.iload_n 1, 1) := by decide +kernel
theorem dX7_loan_98 : decode cX7_loan 98 = .ok (.iload 9, 2) := by decide +kernel
theorem dX7_loan_100 : decode cX7_loan 100 = .ok (.iload_n 3, 1) := by decide +kernel
theorem dX7_loan_101 : decode cX7_loan 101 = .ok (.iload 5, 2) := by decide +kernel
theorem dX7_loan_103 : decode cX7_loan 103 = .ok (.invokevirtual 322, 3) := by decide +kernel
theorem dX7_loan_106 : decode cX7_loan 106 = .ok (.ifCond .eq 20, 3) := by decide +kernel
theorem dX7_loan_109 : decode cX7_loan 109 = .ok (.aload_n 0, 1) := by decide +kernel
theorem dX7_loan_110 : decode cX7_loan 110 = .ok (.iload_n 2, 1) := by decide +kernel
theorem dX7_loan_111 : decode cX7_loan 111 = .ok (.iload 9, 2) := by decide +kernel
theorem dX7_loan_113 : decode cX7_loan 113 = .ok (.iload_n 3, 1) := by decide +kernel
theorem dX7_loan_114 : decode cX7_loan 114 = .ok (.iload 5, 2) := by decide +kernel
theorem dX7_loan_116 : decode cX7_loan 116 = .ok (.invokevirtual 322, 3) := by decide +kernel
theorem dX7_loan_119 : decode cX7_loan 119 = .ok (.ifCond .eq 7, 3) := by decide +kernel
theorem dX7_loan_122 : decode cX7_loan 122 = .ok (.iconst 1, 1) := by decide +kernel
theorem dX7_loan_123 : decode cX7_loan 123 = .ok (.goto 4, 3) := by decide +kernel
theorem dX7_loan_126 : decode cX7_loan 126 = .ok (.iconst 0, 1) := by decide +kernel
theorem dX7_loan_127 : decode cX7_loan 127 = .ok (.istore 10, 2) := by decide +kernel
theorem dX7_loan_129 : decode cX7_loan 129 = .ok (.iload 6, 2) := by decide +kernel
theorem dX7_loan_131 : decode cX7_loan 131 = .ok (.ifCond .lt 22, 3) := by decide +kernel
theorem dX7_loan_134 : decode cX7_loan 134 = .ok (.iload 10, 2) := by decide +kernel
theorem dX7_loan_136 : decode cX7_loan 136 = .ok (.ifCond .eq 17, 3) := by decide +kernel
theorem dX7_loan_139 : decode cX7_loan 139 = .ok (.aload_n 0, 1) := by decide +kernel
theorem dX7_loan_140 : decode cX7_loan 140 = .ok (.iload 6, 2) := by decide +kernel
theorem dX7_loan_142 : decode cX7_loan 142 = .ok (.iload 9, 2) := by decide +kernel
theorem dX7_loan_144 : decode cX7_loan 144 = .ok (.iload_n 3, 1) := by decide +kernel
theorem dX7_loan_145 : decode cX7_loan 145 = .ok (.iload 5, 2) := by decide +kernel
theorem dX7_loan_147 : decode cX7_loan 147 = .ok (.invokevirtual 322, 3) := by decide +kernel
theorem dX7_loan_150 : decode cX7_loan 150 = .ok (.ifCond .ne 27, 3) := by decide +kernel
theorem dX7_loan_153 : decode cX7_loan 153 = .ok (.iload 7, 2) := by decide +kernel
theorem dX7_loan_155 : decode cX7_loan 155 = .ok (.ifCond .lt 26, 3) := by decide +kernel
theorem dX7_loan_158 : decode cX7_loan 158 = .ok (.iload 10, 2) := by decide +kernel
theorem dX7_loan_160 : decode cX7_loan 160 = .ok (.ifCond .eq 21, 3) := by decide +kernel
theorem dX7_loan_163 : decode cX7_loan 163 = .ok (.aload_n 0, 1) := by decide +kernel
theorem dX7_loan_164 : decode cX7_loan 164 = .ok (.iload 7, 2) := by decide +kernel
theorem dX7_loan_166 : decode cX7_loan 166 = .ok (.iload 9, 2) := by decide +kernel
theorem dX7_loan_168 : decode cX7_loan 168 = .ok (.iload_n 3, 1) := by decide +kernel
theorem dX7_loan_169 : decode cX7_loan 169 = .ok (.iload 5, 2) := by decide +kernel
theorem dX7_loan_171 : decode cX7_loan 171 = .ok (.invokevirtual 322, 3) := by decide +kernel
theorem dX7_loan_174 : decode cX7_loan 174 = .ok (.ifCond .eq 7, 3) := by decide +kernel
theorem dX7_loan_177 : decode cX7_loan 177 = .ok (.iconst 1, 1) := by decide +kernel
theorem dX7_loan_178 : decode cX7_loan 178 = .ok (.goto 4, 3) := by decide +kernel
theorem dX7_loan_181 : decode cX7_loan 181 = .ok (.iconst 0, 1) := by decide +kernel
theorem dX7_loan_182 : decode cX7_loan 182 = .ok (.istore 11, 2) := by decide +kernel
theorem dX7_loan_184 : decode cX7_loan 184 = .ok (.iload 8, 2) := by decide +kernel
theorem dX7_loan_186 : decode cX7_loan 186 = .ok (.iload 10, 2) := by decide +kernel
theorem dX7_loan_188 : decode cX7_loan 188 = .ok (.ifCond .eq 12, 3) := by decide +kernel
theorem dX7_loan_191 : decode cX7_loan 191 = .ok (.iload 11, 2) := by decide +kernel
theorem dX7_loan_193 : decode cX7_loan 193 = .ok (.ifCond .ne 7, 3) := by decide +kernel
theorem dX7_loan_196 : decode cX7_loan 196 = .ok (.iconst 1, 1) := by decide +kernel
theorem dX7_loan_197 : decode cX7_loan 197 = .ok (.goto 4, 3) := by decide +kernel
theorem dX7_loan_200 : decode cX7_loan 200 = .ok (.iconst 0, 1) := by decide +kernel
theorem dX7_loan_201 : decode cX7_loan 201 = .ok (.iadd, 1) := by decide +kernel
theorem dX7_loan_202 : decode cX7_loan 202 = .ok (.istore 8, 2) := by decide +kernel
theorem dX7_loan_204 : decode cX7_loan 204 = .ok (.iinc 9 1, 3) := by decide +kernel
theorem dX7_loan_207 : decode cX7_loan 207 = .ok (.goto (-131), 3) := by decide +kernel
theorem dX7_loan_210 : decode cX7_loan 210 = .ok (.iload 8, 2) := by decide +kernel
theorem dX7_loan_212 : decode cX7_loan 212 = .ok (.ireturn, 1) := by decide +kernel
theorem dX7_core_0 : decode cX7_core 0 = .ok (.aload_n 0, 1) := by decide +kernel
theorem dX7_core_1 : decode cX7_core 1 = .ok (.iload_n 2, 1) := by decide +kernel
theorem dX7_core_2 : decode cX7_core 2 = .ok (.invokevirtual 326, 3) := by decide +kernel
theorem dX7_core_5 : decode cX7_core 5 = .ok (.ifCond .eq 8, 3) := by decide +kernel
theorem dX7_core_8 : decode cX7_core 8 = .ok (.iload_n 3, 1) := by decide +kernel
theorem dX7_core_9 : decode cX7_core 9 = .ok (.iconst (-1), 1) := by decide +kernel
theorem dX7_core_10 : decode cX7_core 10 = .ok (.if_icmp .ge 5, 3) := by decide +kernel
theorem dX7_core_13 : decode cX7_core 13 = .ok (.iconst (-1), 1) := by decide +kernel
theorem dX7_core_14 : decode cX7_core 14 = .ok (.ireturn, 1) := by decide +kernel
theorem dX7_core_15 : decode cX7_core 15 = .ok (.iload_n 1, 1) := by decide +kernel
theorem dX7_core_16 : decode cX7_core 16 = .ok (.invokestatic 263, 3) := by decide +kernel
theorem dX7_core_19 : decode cX7_core 19 = .ok (.ifCond .ne 6, 3) := by decide +kernel
theorem dX7_core_22 : decode cX7_core 22 = .ok (.bipush (-2), 2) := by decide +kernel
theorem dX7_core_24 : decode cX7_core 24 = .ok (.ireturn, 1) := by decide +kernel
theorem dX7_core_25 : decode cX7_core 25 = .ok (.iconst 0, 1) := by decide +kernel
theorem dX7_core_26 : decode cX7_core 26 = .ok (.istore 4, 2) := by decide +kernel
theorem dX7_core_28 : decode cX7_core 28 = .ok (.iconst 0, 1) := by decide +kernel
theorem dX7_core_29 : decode cX7_core 29 = .ok (.istore 5, 2) := by decide +kernel
theorem dX7_core_31 : decode cX7_core 31 = .ok (.iload 5, 2) := by decide +kernel
theorem dX7_core_33 : decode cX7_core 33 = .ok (.aload_n 0, 1) := by decide +kernel
theorem dX7_core_34 : decode cX7_core 34 = .ok (.getfield 147, 3) := by decide +kernel
theorem dX7_core_37 : decode cX7_core 37 = .ok (.if_icmp .ge 86, 3) := by decide +kernel
theorem dX7_core_40 : decode cX7_core 40 = .ok (.aload_n 0, 1) := by decide +kernel
theorem dX7_core_41 : decode cX7_core 41 = .ok (.getfield 313, 3) := by decide +kernel
theorem dX7_core_44 : decode cX7_core 44 = .ok (.ifCond .le 79, 3) := by decide +kernel
theorem dX7_core_47 : decode cX7_core 47 = .ok (.iconst 1, 1) := by decide +kernel
theorem dX7_core_48 : decode cX7_core 48 = .ok (.istore 6, 2) := by decide +kernel
theorem dX7_core_50 : decode cX7_core 50 = .ok (.iconst 0, 1) := by decide +kernel
theorem dX7_core_51 : decode cX7_core 51 = .ok (.istore 7, 2) := by decide +kernel
theorem dX7_core_53 : decode cX7_core 53 = .ok (.iload 7, 2) := by decide +kernel
theorem dX7_core_55 : decode cX7_core 55 = .ok (.aload_n 0, 1) := by decide +kernel
theorem dX7_core_56 : decode cX7_core 56 = .ok (.getfield 313, 3) := by decide +kernel
theorem dX7_core_59 : decode cX7_core 59 = .ok (.if_icmp .ge 38, 3) := by decide +kernel
theorem dX7_core_62 : decode cX7_core 62 = .ok (.iload 6, 2) := by decide +kernel
theorem dX7_core_64 : decode cX7_core 64 = .ok (.ifCond .eq 24, 3) := by decide +kernel
theorem dX7_core_67 : decode cX7_core 67 = .ok (.aload_n 0, 1) := by decide +kernel
theorem dX7_core_68 : decode cX7_core 68 = .ok (.iload 7, 2) := by decide +kernel
theorem dX7_core_70 : decode cX7_core 70 = .ok (.iload 5, 2) := by decide +kernel
theorem dX7_core_72 : decode cX7_core 72 = .ok (.iload_n 1, 1) := by decide +kernel
theorem dX7_core_73 : decode cX7_core 73 = .ok (.aload_n 0, 1) := by decide +kernel
theorem dX7_core_74 : decode cX7_core 74 = .ok (.iload_n 2, 1) := by decide +kernel
theorem dX7_core_75 : decode cX7_core 75 = .ok (.invokevirtual 329, 3) := by decide +kernel
theorem dX7_core_78 : decode cX7_core 78 = .ok (.invokevirtual 322, 3) := by decide +kernel
theorem dX7_core_81 : decode cX7_core 81 = .ok (.ifCond .eq 7, 3) := by decide +kernel
theorem dX7_core_84 : decode cX7_core 84 = .ok (.iconst 1, 1) := by decide +kernel
theorem dX7_core_85 : decode cX7_core 85 = .ok (.goto 4, 3) := by decide +kernel
theorem dX7_core_88 : decode cX7_core 88 = .ok (.iconst 0, 1) := by decide +kernel
theorem dX7_core_89 : decode cX7_core 89 = .ok (.istore 6, 2) := by decide +kernel
theorem dX7_core_91 : decode cX7_core 91 = .ok (.iinc 7 1, 3) := by decide +kernel
theorem dX7_core_94 : decode cX7_core 94 = .ok (.goto (-41), 3) := by decide +kernel
theorem dX7_core_97 : decode cX7_core 97 = .ok (.iload 6, 2) := by decide +kernel
theorem dX7_core_99 : decode cX7_core 99 = .ok (.ifCond .ne 6, 3) := by decide +kernel
theorem dX7_core_102 : decode cX7_core 102 = .ok (.goto 15, 3) := by decide +kernel
theorem dX7_core_105 : decode cX7_core 105 = .ok (.iload 4, 2) := by decide +kernel
theorem dX7_core_107 : decode cX7_core 107 = .ok (.iload_n 3, 1) := by decide +kernel
theorem dX7_core_108 : decode cX7_core 108 = .ok (.if_icmp .ne 6, 3) := by decide +kernel
theorem dX7_core_111 : decode cX7_core 111 = .ok (.iload 5, 2) := by decide +kernel
theorem dX7_core_113 : decode cX7_core 113 = .ok (.ireturn, 1) := by decide +kernel
theorem dX7_core_114 : decode cX7_core 114 = .ok (.iinc 4 1, 3) := by decide +kernel
theorem dX7_core_117 : decode cX7_core 117 = .ok (.iinc 5 1, 3) := by decide +kernel
theorem dX7_core_120 : decode cX7_core 120 = .ok (.goto (-89), 3) := by decide +kernel
theorem dX7_core_123 : decode cX7_core 123 = .ok (.iload_n 3, 1) := by decide +kernel
theorem dX7_core_124 : decode cX7_core 124 = .ok (.iconst (-1), 1) := by decide +kernel
theorem dX7_core_125 : decode cX7_core 125 = .ok (.if_icmp .ne 8, 3) := by decide +kernel
theorem dX7_core_128 : decode cX7_core 128 = .ok (.iload 4, 2) := by decide +kernel
theorem dX7_core_130 : decode cX7_core 130 = .ok (.goto 4, 3) := by decide +kernel
theorem dX7_core_133 : decode cX7_core 133 = .ok (.iconst (-1), 1) := by decide +kernel
theorem dX7_core_134 : decode cX7_core 134 = .ok (.ireturn, 1) := by decide +kernel
theorem dX7_whose_0 : decode cX7_whose 0 = .ok (.aload_n 0, 1) := by decide +kernel
theorem dX7_whose_1 : decode cX7_whose 1 = .ok (.iload_n 1, 1) := by decide +kernel
theorem dX7_whose_2 : decode cX7_whose 2 = .ok (.invokevirtual 186, 3) := by decide +kernel
theorem dX7_whose_5 : decode cX7_whose 5 = .ok (.ifCond .eq 11, 3) := by decide +kernel
theorem dX7_whose_8 : decode cX7_whose 8 = .ok (.aload_n 0, 1) := by decide +kernel
theorem dX7_whose_9 : decode cX7_whose 9 = .ok (.iload_n 3, 1) := by decide +kernel
theorem dX7_whose_10 : decode cX7_whose 10 = .ok (.invokevirtual 326, 3) := by decide +kernel
theorem dX7_whose_13 : decode cX7_whose 13 = .ok (.ifCond .ne 5, 3) := by decide +kernel
theorem dX7_whose_16 : decode cX7_whose 16 = .ok (.iconst (-1), 1) := by decide +kernel
theorem dX7_whose_17 : decode cX7_whose 17 = .ok (.ireturn, 1) := by decide +kernel
theorem dX7_whose_18 : decode cX7_whose 18 = .ok (.iload_n 2, 1) := by decide +kernel
theorem dX7_whose_19 : decode cX7_whose 19 = .ok (.invokestatic 263, 3) := by decide +kernel
theorem dX7_whose_22 : decode cX7_whose 22 = .ok (.ifCond .ne 6, 3) := by decide +kernel
theorem dX7_whose_25 : decode cX7_whose 25 = .ok (.bipush (-2), 2) := by decide +kernel
theorem dX7_whose_27 : decode cX7_whose 27 = .ok (.ireturn, 1) := by decide +kernel
theorem dX7_whose_28 : decode cX7_whose 28 = .ok (.bipush (-5), 2) := by decide +kernel
theorem dX7_whose_30 : decode cX7_whose 30 = .ok (.istore 4, 2) := by decide +kernel
theorem dX7_whose_32 : decode cX7_whose 32 = .ok (.iconst 0, 1) := by decide +kernel
theorem dX7_whose_33 : decode cX7_whose 33 = .ok (.istore 5, 2) := by decide +kernel
theorem dX7_whose_35 : decode cX7_whose 35 = .ok (.iconst 0, 1) := by decide +kernel
theorem dX7_whose_36 : decode cX7_whose 36 = .ok (.istore 6, 2) := by decide +kernel
theorem dX7_whose_38 : decode cX7_whose 38 = .ok (.iload 6, 2) := by decide +kernel
theorem dX7_whose_40 : decode cX7_whose 40 = .ok (.bipush 10, 2) := by decide +kernel
theorem dX7_whose_42 : decode cX7_whose 42 = .ok (.if_icmp .ge 86, 3) := by decide +kernel
theorem dX7_whose_45 : decode cX7_whose 45 = .ok (.iconst 0, 1) := by decide +kernel
theorem dX7_whose_46 : decode cX7_whose 46 = .ok (.istore 7, 2) := by decide +kernel
theorem dX7_whose_48 : decode cX7_whose 48 = .ok (.iconst 0, 1) := by decide +kernel
theorem dX7_whose_49 : decode cX7_whose 49 = .ok (.istore 8, 2) := by decide +kernel
theorem dX7_whose_51 : decode cX7_whose 51 = .ok (.iload 8, 2) := by decide +kernel
theorem dX7_whose_53 : decode cX7_whose 53 = .ok (.aload_n 0, 1) := by decide +kernel
theorem dX7_whose_54 : decode cX7_whose 54 = .ok (.getfield 313, 3) := by decide +kernel
theorem dX7_whose_57 : decode cX7_whose 57 = .ok (.if_icmp .ge 47, 3) := by decide +kernel
theorem dX7_whose_60 : decode cX7_whose 60 = .ok (.iload 7, 2) := by decide +kernel
theorem dX7_whose_62 : decode cX7_whose 62 = .ok (.aload_n 0, 1) := by decide +kernel
theorem dX7_whose_63 : decode cX7_whose 63 = .ok (.getfield 110, 3) := by decide +kernel
theorem dX7_whose_66 : decode cX7_whose 66 = .ok (.iload 8, 2) := by decide +kernel
theorem dX7_whose_68 : decode cX7_whose 68 = .ok (.iaload, 1) := by decide +kernel
theorem dX7_whose_69 : decode cX7_whose 69 = .ok (.iload 6, 2) := by decide +kernel
theorem dX7_whose_71 : decode cX7_whose 71 = .ok (.if_icmp .ne 23, 3) := by decide +kernel
theorem dX7_whose_74 : decode cX7_whose 74 = .ok (.aload_n 0, 1) := by decide +kernel
theorem dX7_whose_75 : decode cX7_whose 75 = .ok (.iload 8, 2) := by decide +kernel
theorem dX7_whose_77 : decode cX7_whose 77 = .ok (.iload_n 1, 1) := by decide +kernel
theorem dX7_whose_78 : decode cX7_whose 78 = .ok (.iload_n 2, 1) := by decide +kernel
theorem dX7_whose_79 : decode cX7_whose 79 = .ok (.aload_n 0, 1) := by decide +kernel
theorem dX7_whose_80 : decode cX7_whose 80 = .ok (.iload_n 3, 1) := by decide +kernel
theorem dX7_whose_81 : decode cX7_whose 81 = .ok (.invokevirtual 329, 3) := by decide +kernel
theorem dX7_whose_84 : decode cX7_whose 84 = .ok (.invokevirtual 322, 3) := by decide +kernel
theorem dX7_whose_87 : decode cX7_whose 87 = .ok (.ifCond .eq 7, 3) := by decide +kernel
theorem dX7_whose_90 : decode cX7_whose 90 = .ok (.iconst 1, 1) := by decide +kernel
theorem dX7_whose_91 : decode cX7_whose 91 = .ok (.goto 4, 3) := by decide +kernel
theorem dX7_whose_94 : decode cX7_whose 94 = .ok (.iconst 0, 1) := by decide +kernel
theorem dX7_whose_95 : decode cX7_whose 95 = .ok (.iadd, 1) := by decide +kernel
theorem dX7_whose_96 : decode cX7_whose 96 = .ok (.istore 7, 2) := by decide +kernel
theorem dX7_whose_98 : decode cX7_whose 98 = .ok (.iinc 8 1, 3) := by decide +kernel
theorem dX7_whose_101 : decode cX7_whose 101 = .ok (.goto (-50), 3) := by decide +kernel
theorem dX7_whose_104 : decode cX7_whose 104 = .ok (.iload 7, 2) := by decide +kernel
theorem dX7_whose_106 : decode cX7_whose 106 = .ok (.iload 5, 2) := by decide +kernel
theorem dX7_whose_108 : decode cX7_whose 108 = .ok (.if_icmp .gt 6, 3) := by decide +kernel
theorem dX7_whose_111 : decode cX7_whose 111 = .ok (.goto 11, 3) := by decide +kernel
theorem dX7_whose_114 : decode cX7_whose 114 = .ok (.iload 7, 2) := by decide +kernel
theorem dX7_whose_116 : decode cX7_whose 116 = .ok (.istore 5, 2) := by decide +kernel
theorem dX7_whose_118 : decode cX7_whose 118 = .ok (.iload 6, 2) := by decide +kernel
theorem dX7_whose_120 : decode cX7_whose 120 = .ok (.istore 4, 2) := by decide +kernel
theorem dX7_whose_122 : decode cX7_whose 122 = .ok (.iinc 6 1, 3) := by decide +kernel
theorem dX7_whose_125 : decode cX7_whose 125 = .ok (.goto (-87), 3) := by decide +kernel
theorem dX7_whose_128 : decode cX7_whose 128 = .ok (.iload 4, 2) := by decide +kernel
theorem dX7_whose_130 : decode cX7_whose 130 = .ok (.ireturn, 1) := by decide +kernel
theorem dX7_put_0 : decode cX7_put 0 = .ok (.aload_n 0, 1) := by decide +kernel
theorem dX7_put_1 : decode cX7_put 1 = .ok (.iload_n 2, 1) := by decide +kernel
theorem dX7_put_2 : decode cX7_put 2 = .ok (.invokevirtual 186, 3) := by decide +kernel
theorem dX7_put_5 : decode cX7_put 5 = .ok (.ifCond .ne 11, 3) := by decide +kernel
theorem dX7_put_8 : decode cX7_put 8 = .ok (.iload_n 2, 1) := by decide +kernel
theorem dX7_put_9 : decode cX7_put 9 = .ok (.bipush 40, 2) := by decide +kernel
theorem dX7_put_11 : decode cX7_put 11 = .ok (.if_icmp .eq 5, 3) := by decide +kernel
theorem dX7_put_14 : decode cX7_put 14 = .ok (.iconst (-1), 1) := by decide +kernel
theorem dX7_put_15 : decode cX7_put 15 = .ok (.ireturn, 1) := by decide +kernel
theorem dX7_put_16 : decode cX7_put 16 = .ok (.iload_n 1, 1) := by decide +kernel
theorem dX7_put_17 : decode cX7_put 17 = .ok (.ifCond .eq 14, 3) := by decide +kernel
theorem dX7_put_20 : decode cX7_put 20 = .ok (.iload_n 1, 1) := by decide +kernel
theorem dX7_put_21 : decode cX7_put 21 = .ok (.aload_n 0, 1) := by decide +kernel
theorem dX7_put_22 : decode cX7_put 22 = .ok (.getfield 339, 3) := by decide +kernel
theorem dX7_put_25 : decode cX7_put 25 = .ok (.if_icmp .eq 6, 3) := by decide +kernel
theorem dX7_put_28 : decode cX7_put 28 = .ok (.bipush (-2), 2) := by decide +kernel
theorem dX7_put_30 : decode cX7_put 30 = .ok (.ireturn, 1) := by decide +kernel
theorem dX7_put_31 : decode cX7_put 31 = .ok (.iload_n 1, 1) := by decide +kernel
theorem dX7_put_32 : decode cX7_put 32 = .ok (.bipush 24, 2) := by decide +kernel
theorem dX7_put_34 : decode cX7_put 34 = .ok (.if_icmp .ne 6, 3) := by decide +kernel
theorem dX7_put_37 : decode cX7_put 37 = .ok (.bipush (-4), 2) := by decide +kernel
theorem dX7_put_39 : decode cX7_put 39 = .ok (.ireturn, 1) := by decide +kernel
theorem dX7_put_40 : decode cX7_put 40 = .ok (.iload_n 1, 1) := by decide +kernel
theorem dX7_put_41 : decode cX7_put 41 = .ok (.ifCond .ne 8, 3) := by decide +kernel
theorem dX7_put_44 : decode cX7_put 44 = .ok (.aload_n 0, 1) := by decide +kernel
theorem dX7_put_45 : decode cX7_put 45 = .ok (.iconst 0, 1) := by decide +kernel
theorem dX7_put_46 : decode cX7_put 46 = .ok (.putfield 339, 3) := by decide +kernel
theorem dX7_put_49 : decode cX7_put 49 = .ok (.aload_n 0, 1) := by decide +kernel
theorem dX7_put_50 : decode cX7_put 50 = .ok (.getfield 101, 3) := by decide +kernel
theorem dX7_put_53 : decode cX7_put 53 = .ok (.aload_n 0, 1) := by decide +kernel
theorem dX7_put_54 : decode cX7_put 54 = .ok (.getfield 339, 3) := by decide +kernel
theorem dX7_put_57 : decode cX7_put 57 = .ok (.iload_n 2, 1) := by decide +kernel
theorem dX7_put_58 : decode cX7_put 58 = .ok (.iastore, 1) := by decide +kernel
theorem dX7_put_59 : decode cX7_put 59 = .ok (.aload_n 0, 1) := by decide +kernel
theorem dX7_put_60 : decode cX7_put 60 = .ok (.dup, 1) := by decide +kernel
theorem dX7_put_61 : decode cX7_put 61 = .ok (.getfield 339, 3) := by decide +kernel
theorem dX7_put_64 : decode cX7_put 64 = .ok (.iconst 1, 1) := by decide +kernel
theorem dX7_put_65 : decode cX7_put 65 = .ok (.iadd, 1) := by decide +kernel
theorem dX7_put_66 : decode cX7_put 66 = .ok (.putfield 339, 3) := by decide +kernel
theorem dX7_put_69 : decode cX7_put 69 = .ok (.aload_n 0, 1) := by decide +kernel
theorem dX7_put_70 : decode cX7_put 70 = .ok (.getfield 339, 3) := by decide +kernel
theorem dX7_put_73 : decode cX7_put 73 = .ok (.ireturn, 1) := by decide +kernel
theorem dX7_sees_0 : decode cX7_sees 0 = .ok (.aload_n 0, 1) := by decide +kernel
theorem dX7_sees_1 : decode cX7_sees 1 = .ok (.iload_n 3, 1) := by decide +kernel
theorem dX7_sees_2 : decode cX7_sees 2 = .ok (.putfield 282, 3) := by decide +kernel
theorem dX7_sees_5 : decode cX7_sees 5 = .ok (.iconst 0, 1) := by decide +kernel
theorem dX7_sees_6 : decode cX7_sees 6 = .ok (.istore 4, 2) := by decide +kernel
theorem dX7_sees_8 : decode cX7_sees 8 = .ok (.iload 4, 2) := by decide +kernel
theorem dX7_sees_10 : decode cX7_sees 10 = .ok (.iload_n 3, 1) := by decide +kernel
theorem dX7_sees_11 : decode cX7_sees 11 = .ok (.if_icmp .ge 22, 3) := by decide +kernel
theorem dX7_sees_14 : decode cX7_sees 14 = .ok (.aload_n 0, 1) := by decide +kernel
theorem dX7_sees_15 : decode cX7_sees 15 = .ok (.getfield 104, 3) := by decide +kernel
theorem dX7_sees_18 : decode cX7_sees 18 = .ok (.iload 4, 2) := by decide +kernel
theorem dX7_sees_20 : decode cX7_sees 20 = .ok (.aload_n 1, 1) := by decide +kernel
theorem dX7_sees_21 : decode cX7_sees 21 = .ok (.iload_n 2, 1) := by decide +kernel
theorem dX7_sees_22 : decode cX7_sees 22 = .ok (.iload 4, 2) := by decide +kernel
theorem dX7_sees_24 : decode cX7_sees 24 = .ok (.iadd, 1) := by decide +kernel
theorem dX7_sees_25 : decode cX7_sees 25 = .ok (.iaload, 1) := by decide +kernel
theorem dX7_sees_26 : decode cX7_sees 26 = .ok (.iastore, 1) := by decide +kernel
theorem dX7_sees_27 : decode cX7_sees 27 = .ok (.iinc 4 1, 3) := by decide +kernel
theorem dX7_sees_30 : decode cX7_sees 30 = .ok (.goto (-22), 3) := by decide +kernel
theorem dX7_sees_33 : decode cX7_sees 33 = .ok (.return_, 1) := by decide +kernel
theorem dX7_runs_0 : decode cX7_runs 0 = .ok (.aload_n 0, 1) := by decide +kernel
theorem dX7_runs_1 : decode cX7_runs 1 = .ok (.iload_n 1, 1) := by decide +kernel
theorem dX7_runs_2 : decode cX7_runs 2 = .ok (.invokevirtual 220, 3) := by decide +kernel
theorem dX7_runs_5 : decode cX7_runs 5 = .ok (.ifCond .eq 20, 3) := by decide +kernel
theorem dX7_runs_8 : decode cX7_runs 8 = .ok (.aload_n 0, 1) := by decide +kernel
theorem dX7_runs_9 : decode cX7_runs 9 = .ok (.iload_n 2, 1) := by decide +kernel
theorem dX7_runs_10 : decode cX7_runs 10 = .ok (.invokevirtual 260, 3) := by decide +kernel
theorem dX7_runs_13 : decode cX7_runs 13 = .ok (.ifCond .eq 12, 3) := by decide +kernel
theorem dX7_runs_16 : decode cX7_runs 16 = .ok (.aload_n 0, 1) := by decide +kernel
theorem dX7_runs_17 : decode cX7_runs 17 = .ok (.iload 4, 2) := by decide +kernel
theorem dX7_runs_19 : decode cX7_runs 19 = .ok (.invokevirtual 326, 3) := by decide +kernel
theorem dX7_runs_22 : decode cX7_runs 22 = .ok (.ifCond .ne 5, 3) := by decide +kernel
theorem dX7_runs_25 : decode cX7_runs 25 = .ok (.iconst (-1), 1) := by decide +kernel
theorem dX7_runs_26 : decode cX7_runs 26 = .ok (.ireturn, 1) := by decide +kernel
theorem dX7_runs_27 : decode cX7_runs 27 = .ok (.iload_n 3, 1) := by decide +kernel
theorem dX7_runs_28 : decode cX7_runs 28 = .ok (.invokestatic 263, 3) := by decide +kernel
theorem dX7_runs_31 : decode cX7_runs 31 = .ok (.ifCond .ne 6, 3) := by decide +kernel
theorem dX7_runs_34 : decode cX7_runs 34 = .ok (.bipush (-2), 2) := by decide +kernel
theorem dX7_runs_36 : decode cX7_runs 36 = .ok (.ireturn, 1) := by decide +kernel
theorem dX7_runs_37 : decode cX7_runs 37 = .ok (.aload_n 0, 1) := by decide +kernel
theorem dX7_runs_38 : decode cX7_runs 38 = .ok (.getfield 339, 3) := by decide +kernel
theorem dX7_runs_41 : decode cX7_runs 41 = .ok (.ifCond .ne 6, 3) := by decide +kernel
theorem dX7_runs_44 : decode cX7_runs 44 = .ok (.bipush (-3), 2) := by decide +kernel
theorem dX7_runs_46 : decode cX7_runs 46 = .ok (.ireturn, 1) := by decide +kernel
theorem dX7_runs_47 : decode cX7_runs 47 = .ok (.aload_n 0, 1) := by decide +kernel
theorem dX7_runs_48 : decode cX7_runs 48 = .ok (.iload_n 2, 1) := by decide +kernel
theorem dX7_runs_49 : decode cX7_runs 49 = .ok (.iload_n 3, 1) := by decide +kernel
theorem dX7_runs_50 : decode cX7_runs 50 = .ok (.aload_n 0, 1) := by decide +kernel
theorem dX7_runs_51 : decode cX7_runs 51 = .ok (.iload 4, 2) := by decide +kernel
theorem dX7_runs_53 : decode cX7_runs 53 = .ok (.invokevirtual 329, 3) := by decide +kernel
theorem dX7_runs_56 : decode cX7_runs 56 = .ok (.invokevirtual 269, 3) := by decide +kernel
theorem dX7_runs_59 : decode cX7_runs 59 = .ok (.aload_n 0, 1) := by decide +kernel
theorem dX7_runs_60 : decode cX7_runs 60 = .ok (.aload_n 0, 1) := by decide +kernel
theorem dX7_runs_61 : decode cX7_runs 61 = .ok (.getfield 101, 3) := by decide +kernel
theorem dX7_runs_64 : decode cX7_runs 64 = .ok (.iconst 0, 1) := by decide +kernel
theorem dX7_runs_65 : decode cX7_runs 65 = .ok (.aload_n 0, 1) := by decide +kernel
theorem dX7_runs_66 : decode cX7_runs 66 = .ok (.getfield 339, 3) := by decide +kernel
theorem dX7_runs_69 : decode cX7_runs 69 = .ok (.invokevirtual 342, 3) := by decide +kernel
theorem dX7_runs_72 : decode cX7_runs 72 = .ok (.aload_n 0, 1) := by decide +kernel
theorem dX7_runs_73 : decode cX7_runs 73 = .ok (.iload_n 1, 1) := by decide +kernel
theorem dX7_runs_74 : decode cX7_runs 74 = .ok (.invokevirtual 346, 3) := by decide +kernel
theorem dX7_runs_77 : decode cX7_runs 77 = .ok (.ireturn, 1) := by decide +kernel
theorem dX7_isForged_0 : decode cX7_isForged 0 = .ok (.aload_n 0, 1) := by decide +kernel
theorem dX7_isForged_1 : decode cX7_isForged 1 = .ok (.iload_n 1, 1) := by decide +kernel
theorem dX7_isForged_2 : decode cX7_isForged 2 = .ok (.iload_n 2, 1) := by decide +kernel
theorem dX7_isForged_3 : decode cX7_isForged 3 = .ok (.iload_n 3, 1) := by decide +kernel
theorem dX7_isForged_4 : decode cX7_isForged 4 = .ok (.iload 4, 2) := by decide +kernel
theorem dX7_isForged_6 : decode cX7_isForged 6 = .ok (.invokevirtual 322, 3) := by decide +kernel
theorem dX7_isForged_9 : decode cX7_isForged 9 = .ok (.ifCond .eq 5, 3) := by decide +kernel
theorem dX7_isForged_12 : decode cX7_isForged 12 = .ok (.iconst 0, 1) := by decide +kernel
theorem dX7_isForged_13 : decode cX7_isForged 13 = .ok (.ireturn, 1) := by decide +kernel
theorem dX7_isForged_14 : decode cX7_isForged 14 = .ok (.iconst 0, 1) := by decide +kernel
theorem dX7_isForged_15 : decode cX7_isForged 15 = .ok (.istore 5, 2) := by decide +kernel
theorem dX7_isForged_17 : decode cX7_isForged 17 = .ok (.iload 5, 2) := by decide +kernel
theorem dX7_isForged_19 : decode cX7_isForged 19 = .ok (.aload_n 0, 1) := by decide +kernel
theorem dX7_isForged_20 : decode cX7_isForged 20 = .ok (.getfield 313, 3) := by decide +kernel
theorem dX7_isForged_23 : decode cX7_isForged 23 = .ok (.if_icmp .ge 62, 3) := by decide +kernel
theorem dX7_isForged_26 : decode cX7_isForged 26 = .ok (.aload_n 0, 1) := by decide +kernel
theorem dX7_isForged_27 : decode cX7_isForged 27 = .ok (.iload_n 1, 1) := by decide +kernel
theorem dX7_isForged_28 : decode cX7_isForged 28 = .ok (.iload_n 3, 1) := by decide +kernel
theorem dX7_isForged_29 : decode cX7_isForged 29 = .ok (.iload 4, 2) := by decide +kernel
theorem dX7_isForged_31 : decode cX7_isForged 31 = .ok (.invokevirtual 336, 3) := by decide +kernel
theorem dX7_isForged_34 : decode cX7_isForged 34 = .ok (.iload 5, 2) := by decide +kernel
theorem dX7_isForged_36 : decode cX7_isForged 36 = .ok (.if_icmp .eq 16, 3) := by decide +kernel
theorem dX7_isForged_39 : decode cX7_isForged 39 = .ok (.aload_n 0, 1) := by decide +kernel
theorem dX7_isForged_40 : decode cX7_isForged 40 = .ok (.iload 5, 2) := by decide +kernel
theorem dX7_isForged_42 : decode cX7_isForged 42 = .ok (.iload_n 3, 1) := by decide +kernel
theorem dX7_isForged_43 : decode cX7_isForged 43 = .ok (.iload 4, 2) := by decide +kernel
theorem dX7_isForged_45 : decode cX7_isForged 45 = .ok (.invokevirtual 336, 3) := by decide +kernel
theorem dX7_isForged_48 : decode cX7_isForged 48 = .ok (.iload_n 1, 1) := by decide +kernel
theorem dX7_isForged_49 : decode cX7_isForged 49 = .ok (.if_icmp .ne 7, 3) := by decide +kernel
theorem dX7_isForged_52 : decode cX7_isForged 52 = .ok (.iconst 1, 1) := by decide +kernel
theorem dX7_isForged_53 : decode cX7_isForged 53 = .ok (.goto 4, 3) := by decide +kernel
theorem dX7_isForged_56 : decode cX7_isForged 56 = .ok (.iconst 0, 1) := by decide +kernel
theorem dX7_isForged_57 : decode cX7_isForged 57 = .ok (.istore 6, 2) := by decide +kernel
theorem dX7_isForged_59 : decode cX7_isForged 59 = .ok (.iload 6, 2) := by decide +kernel
theorem dX7_isForged_61 : decode cX7_isForged 61 = .ok (.ifCond .eq 18, 3) := by decide +kernel
theorem dX7_isForged_64 : decode cX7_isForged 64 = .ok (.aload_n 0, 1) := by decide +kernel
theorem dX7_isForged_65 : decode cX7_isForged 65 = .ok (.iload 5, 2) := by decide +kernel
theorem dX7_isForged_67 : decode cX7_isForged 67 = .ok (.iload_n 2, 1) := by decide +kernel
theorem dX7_isForged_68 : decode cX7_isForged 68 = .ok (.iload_n 3, 1) := by decide +kernel
theorem dX7_isForged_69 : decode cX7_isForged 69 = .ok (.iload 4, 2) := by decide +kernel
theorem dX7_isForged_71 : decode cX7_isForged 71 = .ok (.invokevirtual 322, 3) := by decide +kernel
theorem dX7_isForged_74 : decode cX7_isForged 74 = .ok (.ifCond .eq 5, 3) := by decide +kernel
theorem dX7_isForged_77 : decode cX7_isForged 77 = .ok (.iconst 0, 1) := by decide +kernel
theorem dX7_isForged_78 : decode cX7_isForged 78 = .ok (.ireturn, 1) := by decide +kernel
theorem dX7_isForged_79 : decode cX7_isForged 79 = .ok (.iinc 5 1, 3) := by decide +kernel
theorem dX7_isForged_82 : decode cX7_isForged 82 = .ok (.goto (-65), 3) := by decide +kernel
theorem dX7_isForged_85 : decode cX7_isForged 85 = .ok (.iconst 1, 1) := by decide +kernel
theorem dX7_isForged_86 : decode cX7_isForged 86 = .ok (.ireturn, 1) := by decide +kernel
theorem dX7_forged_0 : decode cX7_forged 0 = .ok (.aload_n 0, 1) := by decide +kernel
theorem dX7_forged_1 : decode cX7_forged 1 = .ok (.iload_n 1, 1) := by decide +kernel
theorem dX7_forged_2 : decode cX7_forged 2 = .ok (.invokevirtual 260, 3) := by decide +kernel
theorem dX7_forged_5 : decode cX7_forged 5 = .ok (.ifCond .eq 11, 3) := by decide +kernel
theorem dX7_forged_8 : decode cX7_forged 8 = .ok (.aload_n 0, 1) := by decide +kernel
theorem dX7_forged_9 : decode cX7_forged 9 = .ok (.iload_n 3, 1) := by decide +kernel
theorem dX7_forged_10 : decode cX7_forged 10 = .ok (.invokevirtual 326, 3) := by decide +kernel
theorem dX7_forged_13 : decode cX7_forged 13 = .ok (.ifCond .ne 5, 3) := by decide +kernel
theorem dX7_forged_16 : decode cX7_forged 16 = .ok (.iconst (-1), 1) := by decide +kernel
theorem dX7_forged_17 : decode cX7_forged 17 = .ok (.ireturn, 1) := by decide +kernel
theorem dX7_forged_18 : decode cX7_forged 18 = .ok (.iload_n 2, 1) := by decide +kernel
theorem dX7_forged_19 : decode cX7_forged 19 = .ok (.invokestatic 263, 3) := by decide +kernel
theorem dX7_forged_22 : decode cX7_forged 22 = .ok (.ifCond .ne 6, 3) := by decide +kernel
theorem dX7_forged_25 : decode cX7_forged 25 = .ok (.bipush (-2), 2) := by decide +kernel
theorem dX7_forged_27 : decode cX7_forged 27 = .ok (.ireturn, 1) := by decide +kernel
theorem dX7_forged_28 : decode cX7_forged 28 = .ok (.aload_n 0, 1) := by decide +kernel
theorem dX7_forged_29 : decode cX7_forged 29 = .ok (.getfield 339, 3) := by decide +kernel
theorem dX7_forged_32 : decode cX7_forged 32 = .ok (.ifCond .ne 6, 3) := by decide +kernel
theorem dX7_forged_35 : decode cX7_forged 35 = .ok (.bipush (-3), 2) := by decide +kernel
theorem dX7_forged_37 : decode cX7_forged 37 = .ok (.ireturn, 1) := by decide +kernel
theorem dX7_forged_38 : decode cX7_forged 38 = .ok (.iconst 0, 1) := by decide +kernel
theorem dX7_forged_39 : decode cX7_forged 39 = .ok (.istore 4, 2) := by decide +kernel
theorem dX7_forged_41 : decode cX7_forged 41 = .ok (.iload 4, 2) := by decide +kernel
theorem dX7_forged_43 : decode cX7_forged 43 = .ok (.aload_n 0, 1) := by decide +kernel
theorem dX7_forged_44 : decode cX7_forged 44 = .ok (.getfield 339, 3) := by decide +kernel
theorem dX7_forged_47 : decode cX7_forged 47 = .ok (.if_icmp .ge 45, 3) := by decide +kernel
theorem dX7_forged_50 : decode cX7_forged 50 = .ok (.aload_n 0, 1) := by decide +kernel
theorem dX7_forged_51 : decode cX7_forged 51 = .ok (.getfield 101, 3) := by decide +kernel
theorem dX7_forged_54 : decode cX7_forged 54 = .ok (.iload 4, 2) := by decide +kernel
theorem dX7_forged_56 : decode cX7_forged 56 = .ok (.iaload, 1) := by decide +kernel
theorem dX7_forged_57 : decode cX7_forged 57 = .ok (.bipush 40, 2) := by decide +kernel
theorem dX7_forged_59 : decode cX7_forged 59 = .ok (.if_icmp .eq 27, 3) := by decide +kernel
theorem dX7_forged_62 : decode cX7_forged 62 = .ok (.aload_n 0, 1) := by decide +kernel
theorem dX7_forged_63 : decode cX7_forged 63 = .ok (.iload_n 1, 1) := by decide +kernel
theorem dX7_forged_64 : decode cX7_forged 64 = .ok (.aload_n 0, 1) := by decide +kernel
theorem dX7_forged_65 : decode cX7_forged 65 = .ok (.getfield 101, 3) := by decide +kernel
theorem dX7_forged_68 : decode cX7_forged 68 = .ok (.iload 4, 2) := by decide +kernel
theorem dX7_forged_70 : decode cX7_forged 70 = .ok (.iaload, 1) := by decide +kernel
theorem dX7_forged_71 : decode cX7_forged 71 = .ok (.iload_n 2, 1) := by decide +kernel
theorem dX7_forged_72 : decode cX7_forged 72 = .ok (.aload_n 0, 1) := by decide +kernel
theorem dX7_forged_73 : decode cX7_forged 73 = .ok (.iload_n 3, 1) := by decide +kernel
theorem dX7_forged_74 : decode cX7_forged 74 = .ok (.invokevirtual 329, 3) := by decide +kernel
theorem dX7_forged_77 : decode cX7_forged 77 = .ok (.invokevirtual 349, 3) := by decide +kernel
theorem dX7_forged_80 : decode cX7_forged 80 = .ok (.ifCond .eq 6, 3) := by decide +kernel
theorem dX7_forged_83 : decode cX7_forged 83 = .ok (.iload 4, 2) := by decide +kernel
theorem dX7_forged_85 : decode cX7_forged 85 = .ok (.ireturn, 1) := by decide +kernel
theorem dX7_forged_86 : decode cX7_forged 86 = .ok (.iinc 4 1, 3) := by decide +kernel
theorem dX7_forged_89 : decode cX7_forged 89 = .ok (.goto (-48), 3) := by decide +kernel
theorem dX7_forged_92 : decode cX7_forged 92 = .ok (.bipush (-5), 2) := by decide +kernel
theorem dX7_forged_94 : decode cX7_forged 94 = .ok (.ireturn, 1) := by decide +kernel
theorem dX7_record_0 : decode cX7_record 0 = .ok (.aload_n 0, 1) := by decide +kernel
theorem dX7_record_1 : decode cX7_record 1 = .ok (.iload_n 1, 1) := by decide +kernel
theorem dX7_record_2 : decode cX7_record 2 = .ok (.invokevirtual 260, 3) := by decide +kernel
theorem dX7_record_5 : decode cX7_record 5 = .ok (.ifCond .eq 11, 3) := by decide +kernel
theorem dX7_record_8 : decode cX7_record 8 = .ok (.aload_n 0, 1) := by decide +kernel
theorem dX7_record_9 : decode cX7_record 9 = .ok (.iload_n 2, 1) := by decide +kernel
theorem dX7_record_10 : decode cX7_record 10 = .ok (.invokevirtual 220, 3) := by decide +kernel
theorem dX7_record_13 : decode cX7_record 13 = .ok (.ifCond .ne 5, 3) := by decide +kernel
theorem dX7_record_16 : decode cX7_record 16 = .ok (.iconst (-1), 1) := by decide +kernel
theorem dX7_record_17 : decode cX7_record 17 = .ok (.ireturn, 1) := by decide +kernel
theorem dX7_record_18 : decode cX7_record 18 = .ok (.iload_n 3, 1) := by decide +kernel
theorem dX7_record_19 : decode cX7_record 19 = .ok (.invokestatic 263, 3) := by decide +kernel
theorem dX7_record_22 : decode cX7_record 22 = .ok (.ifCond .ne 6, 3) := by decide +kernel
theorem dX7_record_25 : decode cX7_record 25 = .ok (.bipush (-2), 2) := by decide +kernel
theorem dX7_record_27 : decode cX7_record 27 = .ok (.ireturn, 1) := by decide +kernel
theorem dX7_record_28 : decode cX7_record 28 = .ok (.aload_n 0, 1) := by decide +kernel
theorem dX7_record_29 : decode cX7_record 29 = .ok (.getfield 339, 3) := by decide +kernel
theorem dX7_record_32 : decode cX7_record 32 = .ok (.ifCond .ne 6, 3) := by decide +kernel
theorem dX7_record_35 : decode cX7_record 35 = .ok (.bipush (-3), 2) := by decide +kernel
theorem dX7_record_37 : decode cX7_record 37 = .ok (.ireturn, 1) := by decide +kernel
theorem dX7_record_38 : decode cX7_record 38 = .ok (.aload_n 0, 1) := by decide +kernel
theorem dX7_record_39 : decode cX7_record 39 = .ok (.getfield 352, 3) := by decide +kernel
theorem dX7_record_42 : decode cX7_record 42 = .ok (.bipush 12, 2) := by decide +kernel
theorem dX7_record_44 : decode cX7_record 44 = .ok (.if_icmp .ne 6, 3) := by decide +kernel
theorem dX7_record_47 : decode cX7_record 47 = .ok (.bipush (-4), 2) := by decide +kernel
theorem dX7_record_49 : decode cX7_record 49 = .ok (.ireturn, 1) := by decide +kernel
theorem dX7_record_50 : decode cX7_record 50 = .ok (.aload_n 0, 1) := by decide +kernel
theorem dX7_record_51 : decode cX7_record 51 = .ok (.getfield 129, 3) := by decide +kernel
theorem dX7_record_54 : decode cX7_record 54 = .ok (.aload_n 0, 1) := by decide +kernel
theorem dX7_record_55 : decode cX7_record 55 = .ok (.getfield 352, 3) := by decide +kernel
theorem dX7_record_58 : decode cX7_record 58 = .ok (.iload_n 1, 1) := by decide +kernel
theorem dX7_record_59 : decode cX7_record 59 = .ok (.iastore, 1) := by decide +kernel
theorem dX7_record_60 : decode cX7_record 60 = .ok (.aload_n 0, 1) := by decide +kernel
theorem dX7_record_61 : decode cX7_record 61 = .ok (.getfield 132, 3) := by decide +kernel
theorem dX7_record_64 : decode cX7_record 64 = .ok (.aload_n 0, 1) := by decide +kernel
theorem dX7_record_65 : decode cX7_record 65 = .ok (.getfield 352, 3) := by decide +kernel
theorem dX7_record_68 : decode cX7_record 68 = .ok (.iload_n 2, 1) := by decide +kernel
theorem dX7_record_69 : decode cX7_record 69 = .ok (.iastore, 1) := by decide +kernel
theorem dX7_record_70 : decode cX7_record 70 = .ok (.aload_n 0, 1) := by decide +kernel
theorem dX7_record_71 : decode cX7_record 71 = .ok (.getfield 135, 3) := by decide +kernel
theorem dX7_record_74 : decode cX7_record 74 = .ok (.aload_n 0, 1) := by decide +kernel
theorem dX7_record_75 : decode cX7_record 75 = .ok (.getfield 352, 3) := by decide +kernel
theorem dX7_record_78 : decode cX7_record 78 = .ok (.iload_n 3, 1) := by decide +kernel
theorem dX7_record_79 : decode cX7_record 79 = .ok (.iastore, 1) := by decide +kernel
theorem dX7_record_80 : decode cX7_record 80 = .ok (.aload_n 0, 1) := by decide +kernel
theorem dX7_record_81 : decode cX7_record 81 = .ok (.getfield 138, 3) := by decide +kernel
theorem dX7_record_84 : decode cX7_record 84 = .ok (.aload_n 0, 1) := by decide +kernel
theorem dX7_record_85 : decode cX7_record 85 = .ok (.getfield 352, 3) := by decide +kernel
theorem dX7_record_88 : decode cX7_record 88 = .ok (.aload_n 0, 1) := by decide +kernel
theorem dX7_record_89 : decode cX7_record 89 = .ok (.getfield 339, 3) := by decide +kernel
theorem dX7_record_92 : decode cX7_record 92 = .ok (.iastore, 1) := by decide +kernel
theorem dX7_record_93 : decode cX7_record 93 = .ok (.iconst 0, 1) := by decide +kernel
theorem dX7_record_94 : decode cX7_record 94 = .ok (.istore 4, 2) := by decide +kernel
theorem dX7_record_96 : decode cX7_record 96 = .ok (.iload 4, 2) := by decide +kernel
theorem dX7_record_98 : decode cX7_record 98 = .ok (.aload_n 0, 1) := by decide +kernel
theorem dX7_record_99 : decode cX7_record 99 = .ok (.getfield 339, 3) := by decide +kernel
theorem dX7_record_102 : decode cX7_record 102 = .ok (.if_icmp .ge 31, 3) := by decide +kernel
theorem dX7_record_105 : decode cX7_record 105 = .ok (.aload_n 0, 1) := by decide +kernel
theorem dX7_record_106 : decode cX7_record 106 = .ok (.getfield 141, 3) := by decide +kernel
theorem dX7_record_109 : decode cX7_record 109 = .ok (.bipush 24, 2) := by decide +kernel
theorem dX7_record_111 : decode cX7_record 111 = .ok (.aload_n 0, 1) := by decide +kernel
theorem dX7_record_112 : decode cX7_record 112 = .ok (.getfield 352, 3) := by decide +kernel
theorem dX7_record_115 : decode cX7_record 115 = .ok (.imul, 1) := by decide +kernel
theorem dX7_record_116 : decode cX7_record 116 = .ok (.iload 4, 2) := by decide +kernel
theorem dX7_record_118 : decode cX7_record 118 = .ok (.iadd, 1) := by decide +kernel
theorem dX7_record_119 : decode cX7_record 119 = .ok (.aload_n 0, 1) := by decide +kernel
theorem dX7_record_120 : decode cX7_record 120 = .ok (.getfield 101, 3) := by decide +kernel
theorem dX7_record_123 : decode cX7_record 123 = .ok (.iload 4, 2) := by decide +kernel
theorem dX7_record_125 : decode cX7_record 125 = .ok (.iaload, 1) := by decide +kernel
theorem dX7_record_126 : decode cX7_record 126 = .ok (.iastore, 1) := by decide +kernel
theorem dX7_record_127 : decode cX7_record 127 = .ok (.iinc 4 1, 3) := by decide +kernel
theorem dX7_record_130 : decode cX7_record 130 = .ok (.goto (-34), 3) := by decide +kernel
theorem dX7_record_133 : decode cX7_record 133 = .ok (.aload_n 0, 1) := by decide +kernel
theorem dX7_record_134 : decode cX7_record 134 = .ok (.dup, 1) := by decide +kernel
theorem dX7_record_135 : decode cX7_record 135 = .ok (.getfield 352, 3) := by decide +kernel
theorem dX7_record_138 : decode cX7_record 138 = .ok (.iconst 1, 1) := by decide +kernel
theorem dX7_record_139 : decode cX7_record 139 = .ok (.iadd, 1) := by decide +kernel
theorem dX7_record_140 : decode cX7_record 140 = .ok (.putfield 352, 3) := by decide +kernel
theorem dX7_record_143 : decode cX7_record 143 = .ok (.aload_n 0, 1) := by decide +kernel
theorem dX7_record_144 : decode cX7_record 144 = .ok (.getfield 352, 3) := by decide +kernel
theorem dX7_record_147 : decode cX7_record 147 = .ok (.iconst 1, 1) := by decide +kernel
theorem dX7_record_148 : decode cX7_record 148 = .ok (.isub, 1) := by decide +kernel
theorem dX7_record_149 : decode cX7_record 149 = .ok (.ireturn, 1) := by decide +kernel
theorem dX7_isRecording_0 : decode cX7_isRecording 0 = .ok (.iload_n 1, 1) := by decide +kernel
theorem dX7_isRecording_1 : decode cX7_isRecording 1 = .ok (.ifCond .lt 15, 3) := by decide +kernel
theorem dX7_isRecording_4 : decode cX7_isRecording 4 = .ok (.iload_n 1, 1) := by decide +kernel
theorem dX7_isRecording_5 : decode cX7_isRecording 5 = .ok (.aload_n 0, 1) := by decide +kernel
theorem dX7_isRecording_6 : decode cX7_isRecording 6 = .ok (.getfield 352, 3) := by decide +kernel
theorem dX7_isRecording_9 : decode cX7_isRecording 9 = .ok (.if_icmp .ge 7, 3) := by decide +kernel
theorem dX7_isRecording_12 : decode cX7_isRecording 12 = .ok (.iconst 1, 1) := by decide +kernel
theorem dX7_isRecording_13 : decode cX7_isRecording 13 = .ok (.goto 4, 3) := by decide +kernel
theorem dX7_isRecording_16 : decode cX7_isRecording 16 = .ok (.iconst 0, 1) := by decide +kernel
theorem dX7_isRecording_17 : decode cX7_isRecording 17 = .ok (.ireturn, 1) := by decide +kernel
theorem dX7_plays_0 : decode cX7_plays 0 = .ok (.aload_n 0, 1) := by decide +kernel
theorem dX7_plays_1 : decode cX7_plays 1 = .ok (.aload_n 0, 1) := by decide +kernel
theorem dX7_plays_2 : decode cX7_plays 2 = .ok (.getfield 129, 3) := by decide +kernel
theorem dX7_plays_5 : decode cX7_plays 5 = .ok (.iload_n 1, 1) := by decide +kernel
theorem dX7_plays_6 : decode cX7_plays 6 = .ok (.iaload, 1) := by decide +kernel
theorem dX7_plays_7 : decode cX7_plays 7 = .ok (.aload_n 0, 1) := by decide +kernel
theorem dX7_plays_8 : decode cX7_plays 8 = .ok (.getfield 135, 3) := by decide +kernel
theorem dX7_plays_11 : decode cX7_plays 11 = .ok (.iload_n 1, 1) := by decide +kernel
theorem dX7_plays_12 : decode cX7_plays 12 = .ok (.iaload, 1) := by decide +kernel
theorem dX7_plays_13 : decode cX7_plays 13 = .ok (.aload_n 0, 1) := by decide +kernel
theorem dX7_plays_14 : decode cX7_plays 14 = .ok (.iload_n 2, 1) := by decide +kernel
theorem dX7_plays_15 : decode cX7_plays 15 = .ok (.invokevirtual 329, 3) := by decide +kernel
theorem dX7_plays_18 : decode cX7_plays 18 = .ok (.invokevirtual 269, 3) := by decide +kernel
theorem dX7_plays_21 : decode cX7_plays 21 = .ok (.aload_n 0, 1) := by decide +kernel
theorem dX7_plays_22 : decode cX7_plays 22 = .ok (.aload_n 0, 1) := by decide +kernel
theorem dX7_plays_23 : decode cX7_plays 23 = .ok (.getfield 141, 3) := by decide +kernel
theorem dX7_plays_26 : decode cX7_plays 26 = .ok (.bipush 24, 2) := by decide +kernel
theorem dX7_plays_28 : decode cX7_plays 28 = .ok (.iload_n 1, 1) := by decide +kernel
theorem dX7_plays_29 : decode cX7_plays 29 = .ok (.imul, 1) := by decide +kernel
theorem dX7_plays_30 : decode cX7_plays 30 = .ok (.aload_n 0, 1) := by decide +kernel
theorem dX7_plays_31 : decode cX7_plays 31 = .ok (.getfield 138, 3) := by decide +kernel
theorem dX7_plays_34 : decode cX7_plays 34 = .ok (.iload_n 1, 1) := by decide +kernel
theorem dX7_plays_35 : decode cX7_plays 35 = .ok (.iaload, 1) := by decide +kernel
theorem dX7_plays_36 : decode cX7_plays 36 = .ok (.invokevirtual 342, 3) := by decide +kernel
theorem dX7_plays_39 : decode cX7_plays 39 = .ok (.return_, 1) := by decide +kernel
theorem dX7_heard_0 : decode cX7_heard 0 = .ok (.aload_n 0, 1) := by decide +kernel
theorem dX7_heard_1 : decode cX7_heard 1 = .ok (.iload_n 1, 1) := by decide +kernel
theorem dX7_heard_2 : decode cX7_heard 2 = .ok (.invokevirtual 355, 3) := by decide +kernel
theorem dX7_heard_5 : decode cX7_heard 5 = .ok (.ifCond .eq 23, 3) := by decide +kernel
theorem dX7_heard_8 : decode cX7_heard 8 = .ok (.aload_n 0, 1) := by decide +kernel
theorem dX7_heard_9 : decode cX7_heard 9 = .ok (.iload_n 2, 1) := by decide +kernel
theorem dX7_heard_10 : decode cX7_heard 10 = .ok (.invokevirtual 326, 3) := by decide +kernel
theorem dX7_heard_13 : decode cX7_heard 13 = .ok (.ifCond .eq 15, 3) := by decide +kernel
theorem dX7_heard_16 : decode cX7_heard 16 = .ok (.iload_n 3, 1) := by decide +kernel
theorem dX7_heard_17 : decode cX7_heard 17 = .ok (.i2l, 1) := by decide +kernel
theorem dX7_heard_18 : decode cX7_heard 18 = .ok (.lconst 0, 1) := by decide +kernel
theorem dX7_heard_19 : decode cX7_heard 19 = .ok (.ldc2_w 235, 3) := by decide +kernel
theorem dX7_heard_22 : decode cX7_heard 22 = .ok (.invokestatic 152, 3) := by decide +kernel
theorem dX7_heard_25 : decode cX7_heard 25 = .ok (.ifCond .ne 5, 3) := by decide +kernel
theorem dX7_heard_28 : decode cX7_heard 28 = .ok (.iconst (-1), 1) := by decide +kernel
theorem dX7_heard_29 : decode cX7_heard 29 = .ok (.ireturn, 1) := by decide +kernel
theorem dX7_heard_30 : decode cX7_heard 30 = .ok (.aload_n 0, 1) := by decide +kernel
theorem dX7_heard_31 : decode cX7_heard 31 = .ok (.iload_n 1, 1) := by decide +kernel
theorem dX7_heard_32 : decode cX7_heard 32 = .ok (.iload_n 2, 1) := by decide +kernel
theorem dX7_heard_33 : decode cX7_heard 33 = .ok (.invokevirtual 358, 3) := by decide +kernel
theorem dX7_heard_36 : decode cX7_heard 36 = .ok (.iconst 0, 1) := by decide +kernel
theorem dX7_heard_37 : decode cX7_heard 37 = .ok (.istore 4, 2) := by decide +kernel
theorem dX7_heard_39 : decode cX7_heard 39 = .ok (.iconst 0, 1) := by decide +kernel
theorem dX7_heard_40 : decode cX7_heard 40 = .ok (.istore 5, 2) := by decide +kernel
theorem dX7_heard_42 : decode cX7_heard 42 = .ok (.iconst 0, 1) := by decide +kernel
theorem dX7_heard_43 : decode cX7_heard 43 = .ok (.istore 6, 2) := by decide +kernel
theorem dX7_heard_45 : decode cX7_heard 45 = .ok (.iload 6, 2) := by decide +kernel
theorem dX7_heard_47 : decode cX7_heard 47 = .ok (.aload_n 0, 1) := by decide +kernel
theorem dX7_heard_48 : decode cX7_heard 48 = .ok (.getfield 282, 3) := by decide +kernel
theorem dX7_heard_51 : decode cX7_heard 51 = .ok (.if_icmp .ge 68, 3) := by decide +kernel
theorem dX7_heard_54 : decode cX7_heard 54 = .ok (.iload 5, 2) := by decide +kernel
theorem dX7_heard_56 : decode cX7_heard 56 = .ok (.aload_n 0, 1) := by decide +kernel
theorem dX7_heard_57 : decode cX7_heard 57 = .ok (.getfield 104, 3) := by decide +kernel
theorem dX7_heard_60 : decode cX7_heard 60 = .ok (.iload 6, 2) := by decide +kernel
theorem dX7_heard_62 : decode cX7_heard 62 = .ok (.iaload, 1) := by decide +kernel
theorem dX7_heard_63 : decode cX7_heard 63 = .ok (.bipush 40, 2) := by decide +kernel
theorem dX7_heard_65 : decode cX7_heard 65 = .ok (.if_icmp .ne 7, 3) := by decide +kernel
theorem dX7_heard_68 : decode cX7_heard 68 = .ok (.iconst 1, 1) := by decide +kernel
theorem dX7_heard_69 : decode cX7_heard 69 = .ok (.goto 4, 3) := by decide +kernel
theorem dX7_heard_72 : decode cX7_heard 72 = .ok (.iconst 0, 1) := by decide +kernel
theorem dX7_heard_73 : decode cX7_heard 73 = .ok (.iadd, 1) := by decide +kernel
theorem dX7_heard_74 : decode cX7_heard 74 = .ok (.istore 5, 2) := by decide +kernel
theorem dX7_heard_76 : decode cX7_heard 76 = .ok (.iload 4, 2) := by decide +kernel
theorem dX7_heard_78 : decode cX7_heard 78 = .ok (.aload_n 0, 1) := by decide +kernel
theorem dX7_heard_79 : decode cX7_heard 79 = .ok (.getfield 104, 3) := by decide +kernel
theorem dX7_heard_82 : decode cX7_heard 82 = .ok (.iload 6, 2) := by decide +kernel
theorem dX7_heard_84 : decode cX7_heard 84 = .ok (.iaload, 1) := by decide +kernel
theorem dX7_heard_85 : decode cX7_heard 85 = .ok (.bipush 40, 2) := by decide +kernel
theorem dX7_heard_87 : decode cX7_heard 87 = .ok (.if_icmp .eq 22, 3) := by decide +kernel
theorem dX7_heard_90 : decode cX7_heard 90 = .ok (.aload_n 0, 1) := by decide +kernel
theorem dX7_heard_91 : decode cX7_heard 91 = .ok (.getfield 126, 3) := by decide +kernel
theorem dX7_heard_94 : decode cX7_heard 94 = .ok (.aload_n 0, 1) := by decide +kernel
theorem dX7_heard_95 : decode cX7_heard 95 = .ok (.getfield 104, 3) := by decide +kernel
theorem dX7_heard_98 : decode cX7_heard 98 = .ok (.iload 6, 2) := by decide +kernel
theorem dX7_heard_100 : decode cX7_heard 100 = .ok (.iaload, 1) := by decide +kernel
theorem dX7_heard_101 : decode cX7_heard 101 = .ok (.baload, 1) := by decide +kernel
theorem dX7_heard_102 : decode cX7_heard 102 = .ok (.ifCond .ne 7, 3) := by decide +kernel
theorem dX7_heard_105 : decode cX7_heard 105 = .ok (.iconst 1, 1) := by decide +kernel
theorem dX7_heard_106 : decode cX7_heard 106 = .ok (.goto 4, 3) := by decide +kernel
theorem dX7_heard_109 : decode cX7_heard 109 = .ok (.iconst 0, 1) := by decide +kernel
theorem dX7_heard_110 : decode cX7_heard 110 = .ok (.iadd, 1) := by decide +kernel
theorem dX7_heard_111 : decode cX7_heard 111 = .ok (.istore 4, 2) := by decide +kernel
theorem dX7_heard_113 : decode cX7_heard 113 = .ok (.iinc 6 1, 3) := by decide +kernel
theorem dX7_heard_116 : decode cX7_heard 116 = .ok (.goto (-71), 3) := by decide +kernel
theorem dX7_heard_119 : decode cX7_heard 119 = .ok (.iload_n 3, 1) := by decide +kernel
theorem dX7_heard_120 : decode cX7_heard 120 = .ok (.ifCond .ne 24, 3) := by decide +kernel
theorem dX7_heard_123 : decode cX7_heard 123 = .ok (.aload_n 0, 1) := by decide +kernel
theorem dX7_heard_124 : decode cX7_heard 124 = .ok (.aload_n 0, 1) := by decide +kernel
theorem dX7_heard_125 : decode cX7_heard 125 = .ok (.getfield 132, 3) := by decide +kernel
theorem dX7_heard_128 : decode cX7_heard 128 = .ok (.iload_n 1, 1) := by decide +kernel
theorem dX7_heard_129 : decode cX7_heard 129 = .ok (.iaload, 1) := by decide +kernel
theorem dX7_heard_130 : decode cX7_heard 130 = .ok (.invokevirtual 346, 3) := by decide +kernel
theorem dX7_heard_133 : decode cX7_heard 133 = .ok (.ifCond .le 7, 3) := by decide +kernel
theorem dX7_heard_136 : decode cX7_heard 136 = .ok (.iconst 1, 1) := by decide +kernel
theorem dX7_heard_137 : decode cX7_heard 137 = .ok (.goto 31, 3) := by decide +kernel
theorem dX7_heard_140 : decode cX7_heard 140 = .ok (.iconst 0, 1) := by decide +kernel
theorem dX7_heard_141 : decode cX7_heard 141 = .ok (.goto 27, 3) := by decide +kernel
theorem dX7_heard_144 : decode cX7_heard 144 = .ok (.iload_n 3, 1) := by decide +kernel
theorem dX7_heard_145 : decode cX7_heard 145 = .ok (.iconst 1, 1) := by decide +kernel
theorem dX7_heard_146 : decode cX7_heard 146 = .ok (.if_icmp .ne 8, 3) := by decide +kernel
theorem dX7_heard_149 : decode cX7_heard 149 = .ok (.iload 4, 2) := by decide +kernel
theorem dX7_heard_151 : decode cX7_heard 151 = .ok (.goto 17, 3) := by decide +kernel
theorem dX7_heard_154 : decode cX7_heard 154 = .ok (.iload_n 3, 1) := by decide +kernel
theorem dX7_heard_155 : decode cX7_heard 155 = .ok (.iconst 2, 1) := by decide +kernel
theorem dX7_heard_156 : decode cX7_heard 156 = .ok (.if_icmp .ne 8, 3) := by decide +kernel
theorem dX7_heard_159 : decode cX7_heard 159 = .ok (.iload 5, 2) := by decide +kernel
theorem dX7_heard_161 : decode cX7_heard 161 = .ok (.goto 7, 3) := by decide +kernel
theorem dX7_heard_164 : decode cX7_heard 164 = .ok (.aload_n 0, 1) := by decide +kernel
theorem dX7_heard_165 : decode cX7_heard 165 = .ok (.getfield 282, 3) := by decide +kernel
theorem dX7_heard_168 : decode cX7_heard 168 = .ok (.ireturn, 1) := by decide +kernel
theorem dX7_filled_0 : decode cX7_filled 0 = .ok (.aload_n 0, 1) := by decide +kernel
theorem dX7_filled_1 : decode cX7_filled 1 = .ok (.iload_n 1, 1) := by decide +kernel
theorem dX7_filled_2 : decode cX7_filled 2 = .ok (.invokevirtual 355, 3) := by decide +kernel
theorem dX7_filled_5 : decode cX7_filled 5 = .ok (.ifCond .eq 45, 3) := by decide +kernel
theorem dX7_filled_8 : decode cX7_filled 8 = .ok (.aload_n 0, 1) := by decide +kernel
theorem dX7_filled_9 : decode cX7_filled 9 = .ok (.iload_n 2, 1) := by decide +kernel
theorem dX7_filled_10 : decode cX7_filled 10 = .ok (.invokevirtual 326, 3) := by decide +kernel
theorem dX7_filled_13 : decode cX7_filled 13 = .ok (.ifCond .eq 37, 3) := by decide +kernel
theorem dX7_filled_16 : decode cX7_filled 16 = .ok (.iload_n 3, 1) := by decide +kernel
theorem dX7_filled_17 : decode cX7_filled 17 = .ok (.i2l, 1) := by decide +kernel
theorem dX7_filled_18 : decode cX7_filled 18 = .ok (.lconst 0, 1) := by decide +kernel
theorem dX7_filled_19 : decode cX7_filled 19 = .ok (.aload_n 0, 1) := by decide +kernel
theorem dX7_filled_20 : decode cX7_filled 20 = .ok (.getfield 138, 3) := by decide +kernel
theorem dX7_filled_23 : decode cX7_filled 23 = .ok (.iload_n 1, 1) := by decide +kernel
theorem dX7_filled_24 : decode cX7_filled 24 = .ok (.iaload, 1) := by decide +kernel
theorem dX7_filled_25 : decode cX7_filled 25 = .ok (.iconst 1, 1) := by decide +kernel
theorem dX7_filled_26 : decode cX7_filled 26 = .ok (.isub, 1) := by decide +kernel
theorem dX7_filled_27 : decode cX7_filled 27 = .ok (.i2l, 1) := by decide +kernel
theorem dX7_filled_28 : decode cX7_filled 28 = .ok (.invokestatic 152, 3) := by decide +kernel
theorem dX7_filled_31 : decode cX7_filled 31 = .ok (.ifCond .eq 19, 3) := by decide +kernel
theorem dX7_filled_34 : decode cX7_filled 34 = .ok (.aload_n 0, 1) := by decide +kernel
theorem dX7_filled_35 : decode cX7_filled 35 = .ok (.getfield 141, 3) := by decide +kernel
theorem dX7_filled_38 : decode cX7_filled 38 = .ok (.bipush 24, 2) := by decide +kernel
theorem dX7_filled_40 : decode cX7_filled 40 = .ok (.iload_n 1, 1) := by decide +kernel
theorem dX7_filled_41 : decode cX7_filled 41 = .ok (.imul, 1) := by decide +kernel
theorem dX7_filled_42 : decode cX7_filled 42 = .ok (.iload_n 3, 1) := by decide +kernel
theorem dX7_filled_43 : decode cX7_filled 43 = .ok (.iadd, 1) := by decide +kernel
theorem dX7_filled_44 : decode cX7_filled 44 = .ok (.iaload, 1) := by decide +kernel
theorem dX7_filled_45 : decode cX7_filled 45 = .ok (.bipush 40, 2) := by decide +kernel
theorem dX7_filled_47 : decode cX7_filled 47 = .ok (.if_icmp .eq 5, 3) := by decide +kernel
theorem dX7_filled_50 : decode cX7_filled 50 = .ok (.iconst (-1), 1) := by decide +kernel
theorem dX7_filled_51 : decode cX7_filled 51 = .ok (.ireturn, 1) := by decide +kernel
theorem dX7_filled_52 : decode cX7_filled 52 = .ok (.aload_n 0, 1) := by decide +kernel
theorem dX7_filled_53 : decode cX7_filled 53 = .ok (.iload_n 1, 1) := by decide +kernel
theorem dX7_filled_54 : decode cX7_filled 54 = .ok (.iload_n 2, 1) := by decide +kernel
theorem dX7_filled_55 : decode cX7_filled 55 = .ok (.invokevirtual 358, 3) := by decide +kernel
theorem dX7_filled_58 : decode cX7_filled 58 = .ok (.iconst (-1), 1) := by decide +kernel
theorem dX7_filled_59 : decode cX7_filled 59 = .ok (.istore 4, 2) := by decide +kernel
theorem dX7_filled_61 : decode cX7_filled 61 = .ok (.iconst 0, 1) := by decide +kernel
theorem dX7_filled_62 : decode cX7_filled 62 = .ok (.istore 5, 2) := by decide +kernel
theorem dX7_filled_64 : decode cX7_filled 64 = .ok (.iload 5, 2) := by decide +kernel
theorem dX7_filled_66 : decode cX7_filled 66 = .ok (.aload_n 0, 1) := by decide +kernel
theorem dX7_filled_67 : decode cX7_filled 67 = .ok (.getfield 147, 3) := by decide +kernel
theorem dX7_filled_70 : decode cX7_filled 70 = .ok (.if_icmp .ge 55, 3) := by decide +kernel
theorem dX7_filled_73 : decode cX7_filled 73 = .ok (.aload_n 0, 1) := by decide +kernel
theorem dX7_filled_74 : decode cX7_filled 74 = .ok (.getfield 104, 3) := by decide +kernel
theorem dX7_filled_77 : decode cX7_filled 77 = .ok (.iload_n 3, 1) := by decide +kernel
theorem dX7_filled_78 : decode cX7_filled 78 = .ok (.iload 5, 2) := by decide +kernel
theorem dX7_filled_80 : decode cX7_filled 80 = .ok (.iastore, 1) := by decide +kernel
theorem dX7_filled_81 : decode cX7_filled 81 = .ok (.aload_n 0, 1) := by decide +kernel
theorem dX7_filled_82 : decode cX7_filled 82 = .ok (.getfield 126, 3) := by decide +kernel
theorem dX7_filled_85 : decode cX7_filled 85 = .ok (.iload 5, 2) := by decide +kernel
theorem dX7_filled_87 : decode cX7_filled 87 = .ok (.baload, 1) := by decide +kernel
theorem dX7_filled_88 : decode cX7_filled 88 = .ok (.ifCond .eq 31, 3) := by decide +kernel
theorem dX7_filled_91 : decode cX7_filled 91 = .ok (.aload_n 0, 1) := by decide +kernel
theorem dX7_filled_92 : decode cX7_filled 92 = .ok (.aload_n 0, 1) := by decide +kernel
theorem dX7_filled_93 : decode cX7_filled 93 = .ok (.getfield 132, 3) := by decide +kernel
theorem dX7_filled_96 : decode cX7_filled 96 = .ok (.iload_n 1, 1) := by decide +kernel
theorem dX7_filled_97 : decode cX7_filled 97 = .ok (.iaload, 1) := by decide +kernel
theorem dX7_filled_98 : decode cX7_filled 98 = .ok (.invokevirtual 346, 3) := by decide +kernel
theorem dX7_filled_101 : decode cX7_filled 101 = .ok (.ifCond .ne 6, 3) := by decide +kernel
theorem dX7_filled_104 : decode cX7_filled 104 = .ok (.goto 15, 3) := by decide +kernel
theorem dX7_filled_107 : decode cX7_filled 107 = .ok (.iload 4, 2) := by decide +kernel
theorem dX7_filled_109 : decode cX7_filled 109 = .ok (.ifCond .lt 6, 3) := by decide +kernel
theorem dX7_filled_112 : decode cX7_filled 112 = .ok (.bipush (-3), 2) := by decide +kernel
theorem dX7_filled_114 : decode cX7_filled 114 = .ok (.ireturn, 1) := by decide +kernel
theorem dX7_filled_115 : decode cX7_filled 115 = .ok (.iload 5, 2) := by decide +kernel
theorem dX7_filled_117 : decode cX7_filled 117 = .ok (.istore 4, 2) := by decide +kernel
theorem dX7_filled_119 : decode cX7_filled 119 = .ok (.iinc 5 1, 3) := by decide +kernel
theorem dX7_filled_122 : decode cX7_filled 122 = .ok (.goto (-58), 3) := by decide +kernel
theorem dX7_filled_125 : decode cX7_filled 125 = .ok (.iload 4, 2) := by decide +kernel
theorem dX7_filled_127 : decode cX7_filled 127 = .ok (.ifCond .ge 8, 3) := by decide +kernel
theorem dX7_filled_130 : decode cX7_filled 130 = .ok (.bipush (-3), 2) := by decide +kernel
theorem dX7_filled_132 : decode cX7_filled 132 = .ok (.goto 5, 3) := by decide +kernel
theorem dX7_filled_135 : decode cX7_filled 135 = .ok (.iload 4, 2) := by decide +kernel
theorem dX7_filled_137 : decode cX7_filled 137 = .ok (.ireturn, 1) := by decide +kernel
theorem dX7_count_0 : decode cX7_count 0 = .ok (.iconst 0, 1) := by decide +kernel
theorem dX7_count_1 : decode cX7_count 1 = .ok (.istore_n 2, 1) := by decide +kernel
theorem dX7_count_2 : decode cX7_count 2 = .ok (.iload_n 1, 1) := by decide +kernel
theorem dX7_count_3 : decode cX7_count 3 = .ok (.tableswitch 167 0 8 #[49, 54, 59, 91, 96, 101, 106, 111, 116], 49) := by decide +kernel
theorem dX7_count_52 : decode cX7_count 52 = .ok (.aload_n 0, 1) := by decide +kernel
theorem dX7_count_53 : decode cX7_count 53 = .ok (.getfield 144, 3) := by decide +kernel
theorem dX7_count_56 : decode cX7_count 56 = .ok (.ireturn, 1) := by decide +kernel
theorem dX7_count_57 : decode cX7_count 57 = .ok (.aload_n 0, 1) := by decide +kernel
theorem dX7_count_58 : decode cX7_count 58 = .ok (.getfield 147, 3) := by decide +kernel
theorem dX7_count_61 : decode cX7_count 61 = .ok (.ireturn, 1) := by decide +kernel
theorem dX7_count_62 : decode cX7_count 62 = .ok (.iconst 0, 1) := by decide +kernel
theorem dX7_count_63 : decode cX7_count 63 = .ok (.istore_n 3, 1) := by decide +kernel
theorem dX7_count_64 : decode cX7_count 64 = .ok (.iload_n 3, 1) := by decide +kernel
theorem dX7_count_65 : decode cX7_count 65 = .ok (.bipush 8, 2) := by decide +kernel
theorem dX7_count_67 : decode cX7_count 67 = .ok (.if_icmp .ge 25, 3) := by decide +kernel
theorem dX7_count_70 : decode cX7_count 70 = .ok (.iload_n 2, 1) := by decide +kernel
theorem dX7_count_71 : decode cX7_count 71 = .ok (.aload_n 0, 1) := by decide +kernel
theorem dX7_count_72 : decode cX7_count 72 = .ok (.iload_n 3, 1) := by decide +kernel
theorem dX7_count_73 : decode cX7_count 73 = .ok (.invokevirtual 220, 3) := by decide +kernel
theorem dX7_count_76 : decode cX7_count 76 = .ok (.ifCond .eq 7, 3) := by decide +kernel
theorem dX7_count_79 : decode cX7_count 79 = .ok (.iconst 1, 1) := by decide +kernel
theorem dX7_count_80 : decode cX7_count 80 = .ok (.goto 4, 3) := by decide +kernel
theorem dX7_count_83 : decode cX7_count 83 = .ok (.iconst 0, 1) := by decide +kernel
theorem dX7_count_84 : decode cX7_count 84 = .ok (.iadd, 1) := by decide +kernel
theorem dX7_count_85 : decode cX7_count 85 = .ok (.istore_n 2, 1) := by decide +kernel
theorem dX7_count_86 : decode cX7_count 86 = .ok (.iinc 3 1, 3) := by decide +kernel
theorem dX7_count_89 : decode cX7_count 89 = .ok (.goto (-25), 3) := by decide +kernel
theorem dX7_count_92 : decode cX7_count 92 = .ok (.iload_n 2, 1) := by decide +kernel
theorem dX7_count_93 : decode cX7_count 93 = .ok (.ireturn, 1) := by decide +kernel
theorem dX7_count_94 : decode cX7_count 94 = .ok (.aload_n 0, 1) := by decide +kernel
theorem dX7_count_95 : decode cX7_count 95 = .ok (.getfield 313, 3) := by decide +kernel
theorem dX7_count_98 : decode cX7_count 98 = .ok (.ireturn, 1) := by decide +kernel
theorem dX7_count_99 : decode cX7_count 99 = .ok (.aload_n 0, 1) := by decide +kernel
theorem dX7_count_100 : decode cX7_count 100 = .ok (.getfield 266, 3) := by decide +kernel
theorem dX7_count_103 : decode cX7_count 103 = .ok (.ireturn, 1) := by decide +kernel
theorem dX7_count_104 : decode cX7_count 104 = .ok (.aload_n 0, 1) := by decide +kernel
theorem dX7_count_105 : decode cX7_count 105 = .ok (.getfield 352, 3) := by decide +kernel
theorem dX7_count_108 : decode cX7_count 108 = .ok (.ireturn, 1) := by decide +kernel
theorem dX7_count_109 : decode cX7_count 109 = .ok (.aload_n 0, 1) := by decide +kernel
theorem dX7_count_110 : decode cX7_count 110 = .ok (.getfield 199, 3) := by decide +kernel
theorem dX7_count_113 : decode cX7_count 113 = .ok (.ireturn, 1) := by decide +kernel
theorem dX7_count_114 : decode cX7_count 114 = .ok (.aload_n 0, 1) := by decide +kernel
theorem dX7_count_115 : decode cX7_count 115 = .ok (.getfield 61, 3) := by decide +kernel
theorem dX7_count_118 : decode cX7_count 118 = .ok (.ireturn, 1) := by decide +kernel
theorem dX7_count_119 : decode cX7_count 119 = .ok (.iconst 0, 1) := by decide +kernel
theorem dX7_count_120 : decode cX7_count 120 = .ok (.istore_n 3, 1) := by decide +kernel
theorem dX7_count_121 : decode cX7_count 121 = .ok (.iload_n 3, 1) := by decide +kernel
theorem dX7_count_122 : decode cX7_count 122 = .ok (.aload_n 0, 1) := by decide +kernel
theorem dX7_count_123 : decode cX7_count 123 = .ok (.getfield 147, 3) := by decide +kernel
theorem dX7_count_126 : decode cX7_count 126 = .ok (.if_icmp .ge 42, 3) := by decide +kernel
theorem dX7_count_129 : decode cX7_count 129 = .ok (.iload_n 2, 1) := by decide +kernel
theorem dX7_count_130 : decode cX7_count 130 = .ok (.aload_n 0, 1) := by decide +kernel
theorem dX7_count_131 : decode cX7_count 131 = .ok (.aload_n 0, 1) := by decide +kernel
theorem dX7_count_132 : decode cX7_count 132 = .ok (.getfield 25, 3) := by decide +kernel
theorem dX7_count_135 : decode cX7_count 135 = .ok (.iload_n 3, 1) := by decide +kernel
theorem dX7_count_136 : decode cX7_count 136 = .ok (.iaload, 1) := by decide +kernel
theorem dX7_count_137 : decode cX7_count 137 = .ok (.aload_n 0, 1) := by decide +kernel
theorem dX7_count_138 : decode cX7_count 138 = .ok (.getfield 28, 3) := by decide +kernel
theorem dX7_count_141 : decode cX7_count 141 = .ok (.iload_n 3, 1) := by decide +kernel
theorem dX7_count_142 : decode cX7_count 142 = .ok (.iaload, 1) := by decide +kernel
theorem dX7_count_143 : decode cX7_count 143 = .ok (.aload_n 0, 1) := by decide +kernel
theorem dX7_count_144 : decode cX7_count 144 = .ok (.getfield 34, 3) := by decide +kernel
theorem dX7_count_147 : decode cX7_count 147 = .ok (.iload_n 3, 1) := by decide +kernel
theorem dX7_count_148 : decode cX7_count 148 = .ok (.iaload, 1) := by decide +kernel
theorem dX7_count_149 : decode cX7_count 149 = .ok (.invokevirtual 189, 3) := by decide +kernel
theorem dX7_count_152 : decode cX7_count 152 = .ok (.ifCond .eq 7, 3) := by decide +kernel
theorem dX7_count_155 : decode cX7_count 155 = .ok (.iconst 1, 1) := by decide +kernel
theorem dX7_count_156 : decode cX7_count 156 = .ok (.goto 4, 3) := by decide +kernel
theorem dX7_count_159 : decode cX7_count 159 = .ok (.iconst 0, 1) := by decide +kernel
theorem dX7_count_160 : decode cX7_count 160 = .ok (.iadd, 1) := by decide +kernel
theorem dX7_count_161 : decode cX7_count 161 = .ok (.istore_n 2, 1) := by decide +kernel
theorem dX7_count_162 : decode cX7_count 162 = .ok (.iinc 3 1, 3) := by decide +kernel
theorem dX7_count_165 : decode cX7_count 165 = .ok (.goto (-44), 3) := by decide +kernel
theorem dX7_count_168 : decode cX7_count 168 = .ok (.iload_n 2, 1) := by decide +kernel
theorem dX7_count_169 : decode cX7_count 169 = .ok (.ireturn, 1) := by decide +kernel
theorem dX7_count_170 : decode cX7_count 170 = .ok (.iconst (-1), 1) := by decide +kernel
theorem dX7_count_171 : decode cX7_count 171 = .ok (.ireturn, 1) := by decide +kernel
end
section
theorem dL_law_0 : decode cL_law 0 = .ok (.new 7, 3) := by decide +kernel
theorem dL_law_3 : decode cL_law 3 = .ok (.dup, 1) := by decide +kernel
theorem dL_law_4 : decode cL_law 4 = .ok (.invokespecial 9, 3) := by decide +kernel
theorem dL_law_7 : decode cL_law 7 = .ok (.astore_n 1, 1) := by decide +kernel
theorem dL_law_8 : decode cL_law 8 = .ok (.new 10, 3) := by decide +kernel
theorem dL_law_11 : decode cL_law 11 = .ok (.dup, 1) := by decide +kernel
theorem dL_law_12 : decode cL_law 12 = .ok (.invokespecial 12, 3) := by decide +kernel
theorem dL_law_15 : decode cL_law 15 = .ok (.astore_n 2, 1) := by decide +kernel
theorem dL_law_16 : decode cL_law 16 = .ok (.iconst 0, 1) := by decide +kernel
theorem dL_law_17 : decode cL_law 17 = .ok (.istore_n 3, 1) := by decide +kernel
theorem dL_law_18 : decode cL_law 18 = .ok (.iload_n 3, 1) := by decide +kernel
theorem dL_law_19 : decode cL_law 19 = .ok (.aload_n 0, 1) := by decide +kernel
theorem dL_law_20 : decode cL_law 20 = .ok (.arraylength, 1) := by decide +kernel
theorem dL_law_21 : decode cL_law 21 = .ok (.bipush 6, 2) := by decide +kernel
theorem dL_law_23 : decode cL_law 23 = .ok (.isub, 1) := by decide +kernel
theorem dL_law_24 : decode cL_law 24 = .ok (.if_icmp .gt 1427, 3) := by decide +kernel
theorem dL_law_27 : decode cL_law 27 = .ok (.aload_n 0, 1) := by decide +kernel
theorem dL_law_28 : decode cL_law 28 = .ok (.iload_n 3, 1) := by decide +kernel
theorem dL_law_29 : decode cL_law 29 = .ok (.iaload, 1) := by decide +kernel
theorem dL_law_30 : decode cL_law 30 = .ok (.bipush 31, 2) := by decide +kernel
theorem dL_law_32 : decode cL_law 32 = .ok (.iand, 1) := by decide +kernel
theorem dL_law_33 : decode cL_law 33 = .ok (.tableswitch 1412 0 30 #[139, 182, 225, 288, 321, 354, 387, 410, 473, 486, 509, 592, 615, 638, 671, 724, 767, 820, 863, 916, 959, 992, 1045, 1088, 1131, 1164, 1217, 1260, 1303, 1346, 1389], 139) := by decide +kernel
theorem dL_law_172 : decode cL_law 172 = .ok (.aload_n 1, 1) := by decide +kernel
theorem dL_law_173 : decode cL_law 173 = .ok (.aload_n 0, 1) := by decide +kernel
theorem dL_law_174 : decode cL_law 174 = .ok (.iload_n 3, 1) := by decide +kernel
theorem dL_law_175 : decode cL_law 175 = .ok (.iconst 1, 1) := by decide +kernel
theorem dL_law_176 : decode cL_law 176 = .ok (.iadd, 1) := by decide +kernel
theorem dL_law_177 : decode cL_law 177 = .ok (.iaload, 1) := by decide +kernel
theorem dL_law_178 : decode cL_law 178 = .ok (.aload_n 0, 1) := by decide +kernel
theorem dL_law_179 : decode cL_law 179 = .ok (.iload_n 3, 1) := by decide +kernel
theorem dL_law_180 : decode cL_law 180 = .ok (.iconst 2, 1) := by decide +kernel
theorem dL_law_181 : decode cL_law 181 = .ok (.iadd, 1) := by decide +kernel
theorem dL_law_182 : decode cL_law 182 = .ok (.iaload, 1) := by decide +kernel
theorem dL_law_183 : decode cL_law 183 = .ok (.aload_n 0, 1) := by decide +kernel
theorem dL_law_184 : decode cL_law 184 = .ok (.iload_n 3, 1) := by decide +kernel
theorem dL_law_185 : decode cL_law 185 = .ok (.iconst 3, 1) := by decide +kernel
theorem dL_law_186 : decode cL_law 186 = .ok (.iadd, 1) := by decide +kernel
theorem dL_law_187 : decode cL_law 187 = .ok (.iaload, 1) := by decide +kernel
theorem dL_law_188 : decode cL_law 188 = .ok (.invokevirtual 13, 3) := by decide +kernel
theorem dL_law_191 : decode cL_law 191 = .ok (.pop, 1) := by decide +kernel
theorem dL_law_192 : decode cL_law 192 = .ok (.aload_n 2, 1) := by decide +kernel
theorem dL_law_193 : decode cL_law 193 = .ok (.aload_n 0, 1) := by decide +kernel
theorem dL_law_194 : decode cL_law 194 = .ok (.iload_n 3, 1) := by decide +kernel
theorem dL_law_195 : decode cL_law 195 = .ok (.iconst 1, 1) := by decide +kernel
theorem dL_law_196 : decode cL_law 196 = .ok (.iadd, 1) := by decide +kernel
theorem dL_law_197 : decode cL_law 197 = .ok (.iaload, 1) := by decide +kernel
theorem dL_law_198 : decode cL_law 198 = .ok (.aload_n 0, 1) := by decide +kernel
theorem dL_law_199 : decode cL_law 199 = .ok (.iload_n 3, 1) := by decide +kernel
theorem dL_law_200 : decode cL_law 200 = .ok (.iconst 2, 1) := by decide +kernel
theorem dL_law_201 : decode cL_law 201 = .ok (.iadd, 1) := by decide +kernel
theorem dL_law_202 : decode cL_law 202 = .ok (.iaload, 1) := by decide +kernel
theorem dL_law_203 : decode cL_law 203 = .ok (.aload_n 0, 1) := by decide +kernel
theorem dL_law_204 : decode cL_law 204 = .ok (.iload_n 3, 1) := by decide +kernel
theorem dL_law_205 : decode cL_law 205 = .ok (.iconst 3, 1) := by decide +kernel
theorem dL_law_206 : decode cL_law 206 = .ok (.iadd, 1) := by decide +kernel
theorem dL_law_207 : decode cL_law 207 = .ok (.iaload, 1) := by decide +kernel
theorem dL_law_208 : decode cL_law 208 = .ok (.invokevirtual 17, 3) := by decide +kernel
theorem dL_law_211 : decode cL_law 211 = .ok (.pop, 1) := by decide +kernel
theorem dL_law_212 : decode cL_law 212 = .ok (.goto 1233, 3) := by decide +kernel
theorem dL_law_215 : decode cL_law 215 = .ok (.aload_n 1, 1) := by decide +kernel
theorem dL_law_216 : decode cL_law 216 = .ok (.aload_n 0, 1) := by decide +kernel
theorem dL_law_217 : decode cL_law 217 = .ok (.iload_n 3, 1) := by decide +kernel
theorem dL_law_218 : decode cL_law 218 = .ok (.iconst 1, 1) := by decide +kernel
theorem dL_law_219 : decode cL_law 219 = .ok (.iadd, 1) := by decide +kernel
theorem dL_law_220 : decode cL_law 220 = .ok (.iaload, 1) := by decide +kernel
theorem dL_law_221 : decode cL_law 221 = .ok (.aload_n 0, 1) := by decide +kernel
theorem dL_law_222 : decode cL_law 222 = .ok (.iload_n 3, 1) := by decide +kernel
theorem dL_law_223 : decode cL_law 223 = .ok (.iconst 2, 1) := by decide +kernel
theorem dL_law_224 : decode cL_law 224 = .ok (.iadd, 1) := by decide +kernel
theorem dL_law_225 : decode cL_law 225 = .ok (.iaload, 1) := by decide +kernel
theorem dL_law_226 : decode cL_law 226 = .ok (.aload_n 0, 1) := by decide +kernel
theorem dL_law_227 : decode cL_law 227 = .ok (.iload_n 3, 1) := by decide +kernel
theorem dL_law_228 : decode cL_law 228 = .ok (.iconst 3, 1) := by decide +kernel
theorem dL_law_229 : decode cL_law 229 = .ok (.iadd, 1) := by decide +kernel
theorem dL_law_230 : decode cL_law 230 = .ok (.iaload, 1) := by decide +kernel
theorem dL_law_231 : decode cL_law 231 = .ok (.invokevirtual 18, 3) := by decide +kernel
theorem dL_law_234 : decode cL_law 234 = .ok (.pop, 1) := by decide +kernel
theorem dL_law_235 : decode cL_law 235 = .ok (.aload_n 2, 1) := by decide +kernel
theorem dL_law_236 : decode cL_law 236 = .ok (.aload_n 0, 1) := by decide +kernel
theorem dL_law_237 : decode cL_law 237 = .ok (.iload_n 3, 1) := by decide +kernel
theorem dL_law_238 : decode cL_law 238 = .ok (.iconst 1, 1) := by decide +kernel
theorem dL_law_239 : decode cL_law 239 = .ok (.iadd, 1) := by decide +kernel
theorem dL_law_240 : decode cL_law 240 = .ok (.iaload, 1) := by decide +kernel
theorem dL_law_241 : decode cL_law 241 = .ok (.aload_n 0, 1) := by decide +kernel
theorem dL_law_242 : decode cL_law 242 = .ok (.iload_n 3, 1) := by decide +kernel
theorem dL_law_243 : decode cL_law 243 = .ok (.iconst 2, 1) := by decide +kernel
theorem dL_law_244 : decode cL_law 244 = .ok (.iadd, 1) := by decide +kernel
theorem dL_law_245 : decode cL_law 245 = .ok (.iaload, 1) := by decide +kernel
theorem dL_law_246 : decode cL_law 246 = .ok (.aload_n 0, 1) := by decide +kernel
theorem dL_law_247 : decode cL_law 247 = .ok (.iload_n 3, 1) := by decide +kernel
theorem dL_law_248 : decode cL_law 248 = .ok (.iconst 3, 1) := by decide +kernel
theorem dL_law_249 : decode cL_law 249 = .ok (.iadd, 1) := by decide +kernel
theorem dL_law_250 : decode cL_law 250 = .ok (.iaload, 1) := by decide +kernel
theorem dL_law_251 : decode cL_law 251 = .ok (.invokevirtual 21, 3) := by decide +kernel
theorem dL_law_254 : decode cL_law 254 = .ok (.pop, 1) := by decide +kernel
theorem dL_law_255 : decode cL_law 255 = .ok (.goto 1190, 3) := by decide +kernel
theorem dL_law_258 : decode cL_law 258 = .ok (.aload_n 1, 1) := by decide +kernel
theorem dL_law_259 : decode cL_law 259 = .ok (.aload_n 0, 1) := by decide +kernel
theorem dL_law_260 : decode cL_law 260 = .ok (.iload_n 3, 1) := by decide +kernel
theorem dL_law_261 : decode cL_law 261 = .ok (.iconst 1, 1) := by decide +kernel
theorem dL_law_262 : decode cL_law 262 = .ok (.iadd, 1) := by decide +kernel
theorem dL_law_263 : decode cL_law 263 = .ok (.iaload, 1) := by decide +kernel
theorem dL_law_264 : decode cL_law 264 = .ok (.aload_n 0, 1) := by decide +kernel
theorem dL_law_265 : decode cL_law 265 = .ok (.iload_n 3, 1) := by decide +kernel
theorem dL_law_266 : decode cL_law 266 = .ok (.iconst 2, 1) := by decide +kernel
theorem dL_law_267 : decode cL_law 267 = .ok (.iadd, 1) := by decide +kernel
theorem dL_law_268 : decode cL_law 268 = .ok (.iaload, 1) := by decide +kernel
theorem dL_law_269 : decode cL_law 269 = .ok (.aload_n 0, 1) := by decide +kernel
theorem dL_law_270 : decode cL_law 270 = .ok (.iload_n 3, 1) := by decide +kernel
theorem dL_law_271 : decode cL_law 271 = .ok (.iconst 3, 1) := by decide +kernel
theorem dL_law_272 : decode cL_law 272 = .ok (.iadd, 1) := by decide +kernel
theorem dL_law_273 : decode cL_law 273 = .ok (.iaload, 1) := by decide +kernel
theorem dL_law_274 : decode cL_law 274 = .ok (.aload_n 0, 1) := by decide +kernel
theorem dL_law_275 : decode cL_law 275 = .ok (.iload_n 3, 1) := by decide +kernel
theorem dL_law_276 : decode cL_law 276 = .ok (.iconst 4, 1) := by decide +kernel
theorem dL_law_277 : decode cL_law 277 = .ok (.iadd, 1) := by decide +kernel
theorem dL_law_278 : decode cL_law 278 = .ok (.iaload, 1) := by decide +kernel
theorem dL_law_279 : decode cL_law 279 = .ok (.aload_n 0, 1) := by decide +kernel
theorem dL_law_280 : decode cL_law 280 = .ok (.iload_n 3, 1) := by decide +kernel
theorem dL_law_281 : decode cL_law 281 = .ok (.iconst 5, 1) := by decide +kernel
theorem dL_law_282 : decode cL_law 282 = .ok (.iadd, 1) := by decide +kernel
theorem dL_law_283 : decode cL_law 283 = .ok (.iaload, 1) := by decide +kernel
theorem dL_law_284 : decode cL_law 284 = .ok (.invokevirtual 22, 3) := by decide +kernel
theorem dL_law_287 : decode cL_law 287 = .ok (.pop, 1) := by decide +kernel
theorem dL_law_288 : decode cL_law 288 = .ok (.aload_n 2, 1) := by decide +kernel
theorem dL_law_289 : decode cL_law 289 = .ok (.aload_n 0, 1) := by decide +kernel
theorem dL_law_290 : decode cL_law 290 = .ok (.iload_n 3, 1) := by decide +kernel
theorem dL_law_291 : decode cL_law 291 = .ok (.iconst 1, 1) := by decide +kernel
theorem dL_law_292 : decode cL_law 292 = .ok (.iadd, 1) := by decide +kernel
theorem dL_law_293 : decode cL_law 293 = .ok (.iaload, 1) := by decide +kernel
theorem dL_law_294 : decode cL_law 294 = .ok (.aload_n 0, 1) := by decide +kernel
theorem dL_law_295 : decode cL_law 295 = .ok (.iload_n 3, 1) := by decide +kernel
theorem dL_law_296 : decode cL_law 296 = .ok (.iconst 2, 1) := by decide +kernel
theorem dL_law_297 : decode cL_law 297 = .ok (.iadd, 1) := by decide +kernel
theorem dL_law_298 : decode cL_law 298 = .ok (.iaload, 1) := by decide +kernel
theorem dL_law_299 : decode cL_law 299 = .ok (.aload_n 0, 1) := by decide +kernel
theorem dL_law_300 : decode cL_law 300 = .ok (.iload_n 3, 1) := by decide +kernel
theorem dL_law_301 : decode cL_law 301 = .ok (.iconst 3, 1) := by decide +kernel
theorem dL_law_302 : decode cL_law 302 = .ok (.iadd, 1) := by decide +kernel
theorem dL_law_303 : decode cL_law 303 = .ok (.iaload, 1) := by decide +kernel
theorem dL_law_304 : decode cL_law 304 = .ok (.aload_n 0, 1) := by decide +kernel
theorem dL_law_305 : decode cL_law 305 = .ok (.iload_n 3, 1) := by decide +kernel
theorem dL_law_306 : decode cL_law 306 = .ok (.iconst 4, 1) := by decide +kernel
theorem dL_law_307 : decode cL_law 307 = .ok (.iadd, 1) := by decide +kernel
theorem dL_law_308 : decode cL_law 308 = .ok (.iaload, 1) := by decide +kernel
theorem dL_law_309 : decode cL_law 309 = .ok (.aload_n 0, 1) := by decide +kernel
theorem dL_law_310 : decode cL_law 310 = .ok (.iload_n 3, 1) := by decide +kernel
theorem dL_law_311 : decode cL_law 311 = .ok (.iconst 5, 1) := by decide +kernel
theorem dL_law_312 : decode cL_law 312 = .ok (.iadd, 1) := by decide +kernel
theorem dL_law_313 : decode cL_law 313 = .ok (.iaload, 1) := by decide +kernel
theorem dL_law_314 : decode cL_law 314 = .ok (.invokevirtual 26, 3) := by decide +kernel
theorem dL_law_317 : decode cL_law 317 = .ok (.pop, 1) := by decide +kernel
theorem dL_law_318 : decode cL_law 318 = .ok (.goto 1127, 3) := by decide +kernel
theorem dL_law_321 : decode cL_law 321 = .ok (.aload_n 1, 1) := by decide +kernel
theorem dL_law_322 : decode cL_law 322 = .ok (.aload_n 0, 1) := by decide +kernel
theorem dL_law_323 : decode cL_law 323 = .ok (.iload_n 3, 1) := by decide +kernel
theorem dL_law_324 : decode cL_law 324 = .ok (.iconst 1, 1) := by decide +kernel
theorem dL_law_325 : decode cL_law 325 = .ok (.iadd, 1) := by decide +kernel
theorem dL_law_326 : decode cL_law 326 = .ok (.iaload, 1) := by decide +kernel
theorem dL_law_327 : decode cL_law 327 = .ok (.aload_n 0, 1) := by decide +kernel
theorem dL_law_328 : decode cL_law 328 = .ok (.iload_n 3, 1) := by decide +kernel
theorem dL_law_329 : decode cL_law 329 = .ok (.iconst 2, 1) := by decide +kernel
theorem dL_law_330 : decode cL_law 330 = .ok (.iadd, 1) := by decide +kernel
theorem dL_law_331 : decode cL_law 331 = .ok (.iaload, 1) := by decide +kernel
theorem dL_law_332 : decode cL_law 332 = .ok (.invokevirtual 27, 3) := by decide +kernel
theorem dL_law_335 : decode cL_law 335 = .ok (.pop, 1) := by decide +kernel
theorem dL_law_336 : decode cL_law 336 = .ok (.aload_n 2, 1) := by decide +kernel
theorem dL_law_337 : decode cL_law 337 = .ok (.aload_n 0, 1) := by decide +kernel
theorem dL_law_338 : decode cL_law 338 = .ok (.iload_n 3, 1) := by decide +kernel
theorem dL_law_339 : decode cL_law 339 = .ok (.iconst 1, 1) := by decide +kernel
theorem dL_law_340 : decode cL_law 340 = .ok (.iadd, 1) := by decide +kernel
theorem dL_law_341 : decode cL_law 341 = .ok (.iaload, 1) := by decide +kernel
theorem dL_law_342 : decode cL_law 342 = .ok (.aload_n 0, 1) := by decide +kernel
theorem dL_law_343 : decode cL_law 343 = .ok (.iload_n 3, 1) := by decide +kernel
theorem dL_law_344 : decode cL_law 344 = .ok (.iconst 2, 1) := by decide +kernel
theorem dL_law_345 : decode cL_law 345 = .ok (.iadd, 1) := by decide +kernel
theorem dL_law_346 : decode cL_law 346 = .ok (.iaload, 1) := by decide +kernel
theorem dL_law_347 : decode cL_law 347 = .ok (.invokevirtual 31, 3) := by decide +kernel
theorem dL_law_350 : decode cL_law 350 = .ok (.pop, 1) := by decide +kernel
theorem dL_law_351 : decode cL_law 351 = .ok (.goto 1094, 3) := by decide +kernel
theorem dL_law_354 : decode cL_law 354 = .ok (.aload_n 1, 1) := by decide +kernel
theorem dL_law_355 : decode cL_law 355 = .ok (.aload_n 0, 1) := by decide +kernel
theorem dL_law_356 : decode cL_law 356 = .ok (.iload_n 3, 1) := by decide +kernel
theorem dL_law_357 : decode cL_law 357 = .ok (.iconst 1, 1) := by decide +kernel
theorem dL_law_358 : decode cL_law 358 = .ok (.iadd, 1) := by decide +kernel
theorem dL_law_359 : decode cL_law 359 = .ok (.iaload, 1) := by decide +kernel
theorem dL_law_360 : decode cL_law 360 = .ok (.aload_n 0, 1) := by decide +kernel
theorem dL_law_361 : decode cL_law 361 = .ok (.iload_n 3, 1) := by decide +kernel
theorem dL_law_362 : decode cL_law 362 = .ok (.iconst 2, 1) := by decide +kernel
theorem dL_law_363 : decode cL_law 363 = .ok (.iadd, 1) := by decide +kernel
theorem dL_law_364 : decode cL_law 364 = .ok (.iaload, 1) := by decide +kernel
theorem dL_law_365 : decode cL_law 365 = .ok (.invokevirtual 32, 3) := by decide +kernel
theorem dL_law_368 : decode cL_law 368 = .ok (.pop, 1) := by decide +kernel
theorem dL_law_369 : decode cL_law 369 = .ok (.aload_n 2, 1) := by decide +kernel
theorem dL_law_370 : decode cL_law 370 = .ok (.aload_n 0, 1) := by decide +kernel
theorem dL_law_371 : decode cL_law 371 = .ok (.iload_n 3, 1) := by decide +kernel
theorem dL_law_372 : decode cL_law 372 = .ok (.iconst 1, 1) := by decide +kernel
theorem dL_law_373 : decode cL_law 373 = .ok (.iadd, 1) := by decide +kernel
theorem dL_law_374 : decode cL_law 374 = .ok (.iaload, 1) := by decide +kernel
theorem dL_law_375 : decode cL_law 375 = .ok (.aload_n 0, 1) := by decide +kernel
theorem dL_law_376 : decode cL_law 376 = .ok (.iload_n 3, 1) := by decide +kernel
theorem dL_law_377 : decode cL_law 377 = .ok (.iconst 2, 1) := by decide +kernel
theorem dL_law_378 : decode cL_law 378 = .ok (.iadd, 1) := by decide +kernel
theorem dL_law_379 : decode cL_law 379 = .ok (.iaload, 1) := by decide +kernel
theorem dL_law_380 : decode cL_law 380 = .ok (.invokevirtual 35, 3) := by decide +kernel
theorem dL_law_383 : decode cL_law 383 = .ok (.pop, 1) := by decide +kernel
theorem dL_law_384 : decode cL_law 384 = .ok (.goto 1061, 3) := by decide +kernel
theorem dL_law_387 : decode cL_law 387 = .ok (.aload_n 1, 1) := by decide +kernel
theorem dL_law_388 : decode cL_law 388 = .ok (.aload_n 0, 1) := by decide +kernel
theorem dL_law_389 : decode cL_law 389 = .ok (.iload_n 3, 1) := by decide +kernel
theorem dL_law_390 : decode cL_law 390 = .ok (.iconst 1, 1) := by decide +kernel
theorem dL_law_391 : decode cL_law 391 = .ok (.iadd, 1) := by decide +kernel
theorem dL_law_392 : decode cL_law 392 = .ok (.iaload, 1) := by decide +kernel
theorem dL_law_393 : decode cL_law 393 = .ok (.aload_n 0, 1) := by decide +kernel
theorem dL_law_394 : decode cL_law 394 = .ok (.iload_n 3, 1) := by decide +kernel
theorem dL_law_395 : decode cL_law 395 = .ok (.iconst 2, 1) := by decide +kernel
theorem dL_law_396 : decode cL_law 396 = .ok (.iadd, 1) := by decide +kernel
theorem dL_law_397 : decode cL_law 397 = .ok (.iaload, 1) := by decide +kernel
theorem dL_law_398 : decode cL_law 398 = .ok (.invokevirtual 36, 3) := by decide +kernel
theorem dL_law_401 : decode cL_law 401 = .ok (.pop, 1) := by decide +kernel
theorem dL_law_402 : decode cL_law 402 = .ok (.aload_n 2, 1) := by decide +kernel
theorem dL_law_403 : decode cL_law 403 = .ok (.aload_n 0, 1) := by decide +kernel
theorem dL_law_404 : decode cL_law 404 = .ok (.iload_n 3, 1) := by decide +kernel
theorem dL_law_405 : decode cL_law 405 = .ok (.iconst 1, 1) := by decide +kernel
theorem dL_law_406 : decode cL_law 406 = .ok (.iadd, 1) := by decide +kernel
theorem dL_law_407 : decode cL_law 407 = .ok (.iaload, 1) := by decide +kernel
theorem dL_law_408 : decode cL_law 408 = .ok (.aload_n 0, 1) := by decide +kernel
theorem dL_law_409 : decode cL_law 409 = .ok (.iload_n 3, 1) := by decide +kernel
theorem dL_law_410 : decode cL_law 410 = .ok (.iconst 2, 1) := by decide +kernel
theorem dL_law_411 : decode cL_law 411 = .ok (.iadd, 1) := by decide +kernel
theorem dL_law_412 : decode cL_law 412 = .ok (.iaload, 1) := by decide +kernel
theorem dL_law_413 : decode cL_law 413 = .ok (.invokevirtual 39, 3) := by decide +kernel
theorem dL_law_416 : decode cL_law 416 = .ok (.pop, 1) := by decide +kernel
theorem dL_law_417 : decode cL_law 417 = .ok (.goto 1028, 3) := by decide +kernel
theorem dL_law_420 : decode cL_law 420 = .ok (.aload_n 1, 1) := by decide +kernel
theorem dL_law_421 : decode cL_law 421 = .ok (.aload_n 0, 1) := by decide +kernel
theorem dL_law_422 : decode cL_law 422 = .ok (.iload_n 3, 1) := by decide +kernel
theorem dL_law_423 : decode cL_law 423 = .ok (.iconst 1, 1) := by decide +kernel
theorem dL_law_424 : decode cL_law 424 = .ok (.iadd, 1) := by decide +kernel
theorem dL_law_425 : decode cL_law 425 = .ok (.iaload, 1) := by decide +kernel
theorem dL_law_426 : decode cL_law 426 = .ok (.invokevirtual 40, 3) := by decide +kernel
theorem dL_law_429 : decode cL_law 429 = .ok (.pop, 1) := by decide +kernel
theorem dL_law_430 : decode cL_law 430 = .ok (.aload_n 2, 1) := by decide +kernel
theorem dL_law_431 : decode cL_law 431 = .ok (.aload_n 0, 1) := by decide +kernel
theorem dL_law_432 : decode cL_law 432 = .ok (.iload_n 3, 1) := by decide +kernel
theorem dL_law_433 : decode cL_law 433 = .ok (.iconst 1, 1) := by decide +kernel
theorem dL_law_434 : decode cL_law 434 = .ok (.iadd, 1) := by decide +kernel
theorem dL_law_435 : decode cL_law 435 = .ok (.iaload, 1) := by decide +kernel
theorem dL_law_436 : decode cL_law 436 = .ok (.invokevirtual 44, 3) := by decide +kernel
theorem dL_law_439 : decode cL_law 439 = .ok (.pop, 1) := by decide +kernel
theorem dL_law_440 : decode cL_law 440 = .ok (.goto 1005, 3) := by decide +kernel
theorem dL_law_443 : decode cL_law 443 = .ok (.aload_n 1, 1) := by decide +kernel
theorem dL_law_444 : decode cL_law 444 = .ok (.aload_n 0, 1) := by decide +kernel
theorem dL_law_445 : decode cL_law 445 = .ok (.iload_n 3, 1) := by decide +kernel
theorem dL_law_446 : decode cL_law 446 = .ok (.iconst 1, 1) := by decide +kernel
theorem dL_law_447 : decode cL_law 447 = .ok (.iadd, 1) := by decide +kernel
theorem dL_law_448 : decode cL_law 448 = .ok (.iaload, 1) := by decide +kernel
theorem dL_law_449 : decode cL_law 449 = .ok (.i2l, 1) := by decide +kernel
theorem dL_law_450 : decode cL_law 450 = .ok (.bipush 32, 2) := by decide +kernel
theorem dL_law_452 : decode cL_law 452 = .ok (.lshl, 1) := by decide +kernel
theorem dL_law_453 : decode cL_law 453 = .ok (.aload_n 0, 1) := by decide +kernel
theorem dL_law_454 : decode cL_law 454 = .ok (.iload_n 3, 1) := by decide +kernel
theorem dL_law_455 : decode cL_law 455 = .ok (.iconst 2, 1) := by decide +kernel
theorem dL_law_456 : decode cL_law 456 = .ok (.iadd, 1) := by decide +kernel
theorem dL_law_457 : decode cL_law 457 = .ok (.iaload, 1) := by decide +kernel
theorem dL_law_458 : decode cL_law 458 = .ok (.i2l, 1) := by decide +kernel
theorem dL_law_459 : decode cL_law 459 = .ok (.ldc2_w 45, 3) := by decide +kernel
theorem dL_law_462 : decode cL_law 462 = .ok (.land, 1) := by decide +kernel
theorem dL_law_463 : decode cL_law 463 = .ok (.lor, 1) := by decide +kernel
theorem dL_law_464 : decode cL_law 464 = .ok (.aload_n 0, 1) := by decide +kernel
theorem dL_law_465 : decode cL_law 465 = .ok (.iload_n 3, 1) := by decide +kernel
theorem dL_law_466 : decode cL_law 466 = .ok (.iconst 3, 1) := by decide +kernel
theorem dL_law_467 : decode cL_law 467 = .ok (.iadd, 1) := by decide +kernel
theorem dL_law_468 : decode cL_law 468 = .ok (.iaload, 1) := by decide +kernel
theorem dL_law_469 : decode cL_law 469 = .ok (.invokevirtual 47, 3) := by decide +kernel
theorem dL_law_472 : decode cL_law 472 = .ok (.pop, 1) := by decide +kernel
theorem dL_law_473 : decode cL_law 473 = .ok (.aload_n 2, 1) := by decide +kernel
theorem dL_law_474 : decode cL_law 474 = .ok (.aload_n 0, 1) := by decide +kernel
theorem dL_law_475 : decode cL_law 475 = .ok (.iload_n 3, 1) := by decide +kernel
theorem dL_law_476 : decode cL_law 476 = .ok (.iconst 1, 1) := by decide +kernel
theorem dL_law_477 : decode cL_law 477 = .ok (.iadd, 1) := by decide +kernel
theorem dL_law_478 : decode cL_law 478 = .ok (.iaload, 1) := by decide +kernel
theorem dL_law_479 : decode cL_law 479 = .ok (.i2l, 1) := by decide +kernel
theorem dL_law_480 : decode cL_law 480 = .ok (.bipush 32, 2) := by decide +kernel
theorem dL_law_482 : decode cL_law 482 = .ok (.lshl, 1) := by decide +kernel
theorem dL_law_483 : decode cL_law 483 = .ok (.aload_n 0, 1) := by decide +kernel
theorem dL_law_484 : decode cL_law 484 = .ok (.iload_n 3, 1) := by decide +kernel
theorem dL_law_485 : decode cL_law 485 = .ok (.iconst 2, 1) := by decide +kernel
theorem dL_law_486 : decode cL_law 486 = .ok (.iadd, 1) := by decide +kernel
theorem dL_law_487 : decode cL_law 487 = .ok (.iaload, 1) := by decide +kernel
theorem dL_law_488 : decode cL_law 488 = .ok (.i2l, 1) := by decide +kernel
theorem dL_law_489 : decode cL_law 489 = .ok (.ldc2_w 45, 3) := by decide +kernel
theorem dL_law_492 : decode cL_law 492 = .ok (.land, 1) := by decide +kernel
theorem dL_law_493 : decode cL_law 493 = .ok (.lor, 1) := by decide +kernel
theorem dL_law_494 : decode cL_law 494 = .ok (.aload_n 0, 1) := by decide +kernel
theorem dL_law_495 : decode cL_law 495 = .ok (.iload_n 3, 1) := by decide +kernel
theorem dL_law_496 : decode cL_law 496 = .ok (.iconst 3, 1) := by decide +kernel
theorem dL_law_497 : decode cL_law 497 = .ok (.iadd, 1) := by decide +kernel
theorem dL_law_498 : decode cL_law 498 = .ok (.iaload, 1) := by decide +kernel
theorem dL_law_499 : decode cL_law 499 = .ok (.invokevirtual 51, 3) := by decide +kernel
theorem dL_law_502 : decode cL_law 502 = .ok (.pop, 1) := by decide +kernel
theorem dL_law_503 : decode cL_law 503 = .ok (.goto 942, 3) := by decide +kernel
theorem dL_law_506 : decode cL_law 506 = .ok (.aload_n 1, 1) := by decide +kernel
theorem dL_law_507 : decode cL_law 507 = .ok (.invokevirtual 52, 3) := by decide +kernel
theorem dL_law_510 : decode cL_law 510 = .ok (.pop, 1) := by decide +kernel
theorem dL_law_511 : decode cL_law 511 = .ok (.aload_n 2, 1) := by decide +kernel
theorem dL_law_512 : decode cL_law 512 = .ok (.invokevirtual 56, 3) := by decide +kernel
theorem dL_law_515 : decode cL_law 515 = .ok (.pop, 1) := by decide +kernel
theorem dL_law_516 : decode cL_law 516 = .ok (.goto 929, 3) := by decide +kernel
theorem dL_law_519 : decode cL_law 519 = .ok (.aload_n 1, 1) := by decide +kernel
theorem dL_law_520 : decode cL_law 520 = .ok (.aload_n 0, 1) := by decide +kernel
theorem dL_law_521 : decode cL_law 521 = .ok (.iload_n 3, 1) := by decide +kernel
theorem dL_law_522 : decode cL_law 522 = .ok (.iconst 1, 1) := by decide +kernel
theorem dL_law_523 : decode cL_law 523 = .ok (.iadd, 1) := by decide +kernel
theorem dL_law_524 : decode cL_law 524 = .ok (.iaload, 1) := by decide +kernel
theorem dL_law_525 : decode cL_law 525 = .ok (.invokevirtual 57, 3) := by decide +kernel
theorem dL_law_528 : decode cL_law 528 = .ok (.aload_n 2, 1) := by decide +kernel
theorem dL_law_529 : decode cL_law 529 = .ok (.aload_n 0, 1) := by decide +kernel
theorem dL_law_530 : decode cL_law 530 = .ok (.iload_n 3, 1) := by decide +kernel
theorem dL_law_531 : decode cL_law 531 = .ok (.iconst 1, 1) := by decide +kernel
theorem dL_law_532 : decode cL_law 532 = .ok (.iadd, 1) := by decide +kernel
theorem dL_law_533 : decode cL_law 533 = .ok (.iaload, 1) := by decide +kernel
theorem dL_law_534 : decode cL_law 534 = .ok (.invokevirtual 60, 3) := by decide +kernel
theorem dL_law_537 : decode cL_law 537 = .ok (.if_icmp .eq 908, 3) := by decide +kernel
theorem dL_law_540 : decode cL_law 540 = .ok (.iconst 0, 1) := by decide +kernel
theorem dL_law_541 : decode cL_law 541 = .ok (.ireturn, 1) := by decide +kernel
theorem dL_law_542 : decode cL_law 542 = .ok (.aload_n 1, 1) := by decide +kernel
theorem dL_law_543 : decode cL_law 543 = .ok (.aload_n 0, 1) := by decide +kernel
theorem dL_law_544 : decode cL_law 544 = .ok (.iload_n 3, 1) := by decide +kernel
theorem dL_law_545 : decode cL_law 545 = .ok (.iconst 1, 1) := by decide +kernel
theorem dL_law_546 : decode cL_law 546 = .ok (.iadd, 1) := by decide +kernel
theorem dL_law_547 : decode cL_law 547 = .ok (.iaload, 1) := by decide +kernel
theorem dL_law_548 : decode cL_law 548 = .ok (.aload_n 0, 1) := by decide +kernel
theorem dL_law_549 : decode cL_law 549 = .ok (.iload_n 3, 1) := by decide +kernel
theorem dL_law_550 : decode cL_law 550 = .ok (.iconst 2, 1) := by decide +kernel
theorem dL_law_551 : decode cL_law 551 = .ok (.iadd, 1) := by decide +kernel
theorem dL_law_552 : decode cL_law 552 = .ok (.iaload, 1) := by decide +kernel
theorem dL_law_553 : decode cL_law 553 = .ok (.aload_n 0, 1) := by decide +kernel
theorem dL_law_554 : decode cL_law 554 = .ok (.iload_n 3, 1) := by decide +kernel
theorem dL_law_555 : decode cL_law 555 = .ok (.iconst 3, 1) := by decide +kernel
theorem dL_law_556 : decode cL_law 556 = .ok (.iadd, 1) := by decide +kernel
theorem dL_law_557 : decode cL_law 557 = .ok (.iaload, 1) := by decide +kernel
theorem dL_law_558 : decode cL_law 558 = .ok (.aload_n 0, 1) := by decide +kernel
theorem dL_law_559 : decode cL_law 559 = .ok (.iload_n 3, 1) := by decide +kernel
theorem dL_law_560 : decode cL_law 560 = .ok (.iconst 4, 1) := by decide +kernel
theorem dL_law_561 : decode cL_law 561 = .ok (.iadd, 1) := by decide +kernel
theorem dL_law_562 : decode cL_law 562 = .ok (.iaload, 1) := by decide +kernel
theorem dL_law_563 : decode cL_law 563 = .ok (.i2l, 1) := by decide +kernel
theorem dL_law_564 : decode cL_law 564 = .ok (.bipush 32, 2) := by decide +kernel
theorem dL_law_566 : decode cL_law 566 = .ok (.lshl, 1) := by decide +kernel
theorem dL_law_567 : decode cL_law 567 = .ok (.aload_n 0, 1) := by decide +kernel
theorem dL_law_568 : decode cL_law 568 = .ok (.iload_n 3, 1) := by decide +kernel
theorem dL_law_569 : decode cL_law 569 = .ok (.iconst 5, 1) := by decide +kernel
theorem dL_law_570 : decode cL_law 570 = .ok (.iadd, 1) := by decide +kernel
theorem dL_law_571 : decode cL_law 571 = .ok (.iaload, 1) := by decide +kernel
theorem dL_law_572 : decode cL_law 572 = .ok (.i2l, 1) := by decide +kernel
theorem dL_law_573 : decode cL_law 573 = .ok (.ldc2_w 45, 3) := by decide +kernel
theorem dL_law_576 : decode cL_law 576 = .ok (.land, 1) := by decide +kernel
theorem dL_law_577 : decode cL_law 577 = .ok (.lor, 1) := by decide +kernel
theorem dL_law_578 : decode cL_law 578 = .ok (.invokevirtual 61, 3) := by decide +kernel
theorem dL_law_581 : decode cL_law 581 = .ok (.pop, 1) := by decide +kernel
theorem dL_law_582 : decode cL_law 582 = .ok (.aload_n 2, 1) := by decide +kernel
theorem dL_law_583 : decode cL_law 583 = .ok (.aload_n 0, 1) := by decide +kernel
theorem dL_law_584 : decode cL_law 584 = .ok (.iload_n 3, 1) := by decide +kernel
theorem dL_law_585 : decode cL_law 585 = .ok (.iconst 1, 1) := by decide +kernel
theorem dL_law_586 : decode cL_law 586 = .ok (.iadd, 1) := by decide +kernel
theorem dL_law_587 : decode cL_law 587 = .ok (.iaload, 1) := by decide +kernel
theorem dL_law_588 : decode cL_law 588 = .ok (.aload_n 0, 1) := by decide +kernel
theorem dL_law_589 : decode cL_law 589 = .ok (.iload_n 3, 1) := by decide +kernel
theorem dL_law_590 : decode cL_law 590 = .ok (.iconst 2, 1) := by decide +kernel
theorem dL_law_591 : decode cL_law 591 = .ok (.iadd, 1) := by decide +kernel
theorem dL_law_592 : decode cL_law 592 = .ok (.iaload, 1) := by decide +kernel
theorem dL_law_593 : decode cL_law 593 = .ok (.aload_n 0, 1) := by decide +kernel
theorem dL_law_594 : decode cL_law 594 = .ok (.iload_n 3, 1) := by decide +kernel
theorem dL_law_595 : decode cL_law 595 = .ok (.iconst 3, 1) := by decide +kernel
theorem dL_law_596 : decode cL_law 596 = .ok (.iadd, 1) := by decide +kernel
theorem dL_law_597 : decode cL_law 597 = .ok (.iaload, 1) := by decide +kernel
theorem dL_law_598 : decode cL_law 598 = .ok (.aload_n 0, 1) := by decide +kernel
theorem dL_law_599 : decode cL_law 599 = .ok (.iload_n 3, 1) := by decide +kernel
theorem dL_law_600 : decode cL_law 600 = .ok (.iconst 4, 1) := by decide +kernel
theorem dL_law_601 : decode cL_law 601 = .ok (.iadd, 1) := by decide +kernel
theorem dL_law_602 : decode cL_law 602 = .ok (.iaload, 1) := by decide +kernel
theorem dL_law_603 : decode cL_law 603 = .ok (.i2l, 1) := by decide +kernel
theorem dL_law_604 : decode cL_law 604 = .ok (.bipush 32, 2) := by decide +kernel
theorem dL_law_606 : decode cL_law 606 = .ok (.lshl, 1) := by decide +kernel
theorem dL_law_607 : decode cL_law 607 = .ok (.aload_n 0, 1) := by decide +kernel
theorem dL_law_608 : decode cL_law 608 = .ok (.iload_n 3, 1) := by decide +kernel
theorem dL_law_609 : decode cL_law 609 = .ok (.iconst 5, 1) := by decide +kernel
theorem dL_law_610 : decode cL_law 610 = .ok (.iadd, 1) := by decide +kernel
theorem dL_law_611 : decode cL_law 611 = .ok (.iaload, 1) := by decide +kernel
theorem dL_law_612 : decode cL_law 612 = .ok (.i2l, 1) := by decide +kernel
theorem dL_law_613 : decode cL_law 613 = .ok (.ldc2_w 45, 3) := by decide +kernel
theorem dL_law_616 : decode cL_law 616 = .ok (.land, 1) := by decide +kernel
theorem dL_law_617 : decode cL_law 617 = .ok (.lor, 1) := by decide +kernel
theorem dL_law_618 : decode cL_law 618 = .ok (.invokevirtual 65, 3) := by decide +kernel
theorem dL_law_621 : decode cL_law 621 = .ok (.pop, 1) := by decide +kernel
theorem dL_law_622 : decode cL_law 622 = .ok (.goto 823, 3) := by decide +kernel
theorem dL_law_625 : decode cL_law 625 = .ok (.aload_n 1, 1) := by decide +kernel
theorem dL_law_626 : decode cL_law 626 = .ok (.aload_n 0, 1) := by decide +kernel
theorem dL_law_627 : decode cL_law 627 = .ok (.iload_n 3, 1) := by decide +kernel
theorem dL_law_628 : decode cL_law 628 = .ok (.iconst 1, 1) := by decide +kernel
theorem dL_law_629 : decode cL_law 629 = .ok (.iadd, 1) := by decide +kernel
theorem dL_law_630 : decode cL_law 630 = .ok (.iaload, 1) := by decide +kernel
theorem dL_law_631 : decode cL_law 631 = .ok (.invokevirtual 66, 3) := by decide +kernel
theorem dL_law_634 : decode cL_law 634 = .ok (.pop, 1) := by decide +kernel
theorem dL_law_635 : decode cL_law 635 = .ok (.aload_n 2, 1) := by decide +kernel
theorem dL_law_636 : decode cL_law 636 = .ok (.aload_n 0, 1) := by decide +kernel
theorem dL_law_637 : decode cL_law 637 = .ok (.iload_n 3, 1) := by decide +kernel
theorem dL_law_638 : decode cL_law 638 = .ok (.iconst 1, 1) := by decide +kernel
theorem dL_law_639 : decode cL_law 639 = .ok (.iadd, 1) := by decide +kernel
theorem dL_law_640 : decode cL_law 640 = .ok (.iaload, 1) := by decide +kernel
theorem dL_law_641 : decode cL_law 641 = .ok (.invokevirtual 69, 3) := by decide +kernel
theorem dL_law_644 : decode cL_law 644 = .ok (.pop, 1) := by decide +kernel
theorem dL_law_645 : decode cL_law 645 = .ok (.goto 800, 3) := by decide +kernel
theorem dL_law_648 : decode cL_law 648 = .ok (.aload_n 1, 1) := by decide +kernel
theorem dL_law_649 : decode cL_law 649 = .ok (.aload_n 0, 1) := by decide +kernel
theorem dL_law_650 : decode cL_law 650 = .ok (.iload_n 3, 1) := by decide +kernel
theorem dL_law_651 : decode cL_law 651 = .ok (.iconst 1, 1) := by decide +kernel
theorem dL_law_652 : decode cL_law 652 = .ok (.iadd, 1) := by decide +kernel
theorem dL_law_653 : decode cL_law 653 = .ok (.iaload, 1) := by decide +kernel
theorem dL_law_654 : decode cL_law 654 = .ok (.invokevirtual 70, 3) := by decide +kernel
theorem dL_law_657 : decode cL_law 657 = .ok (.pop, 1) := by decide +kernel
theorem dL_law_658 : decode cL_law 658 = .ok (.aload_n 2, 1) := by decide +kernel
theorem dL_law_659 : decode cL_law 659 = .ok (.aload_n 0, 1) := by decide +kernel
theorem dL_law_660 : decode cL_law 660 = .ok (.iload_n 3, 1) := by decide +kernel
theorem dL_law_661 : decode cL_law 661 = .ok (.iconst 1, 1) := by decide +kernel
theorem dL_law_662 : decode cL_law 662 = .ok (.iadd, 1) := by decide +kernel
theorem dL_law_663 : decode cL_law 663 = .ok (.iaload, 1) := by decide +kernel
theorem dL_law_664 : decode cL_law 664 = .ok (.invokevirtual 73, 3) := by decide +kernel
theorem dL_law_667 : decode cL_law 667 = .ok (.pop, 1) := by decide +kernel
theorem dL_law_668 : decode cL_law 668 = .ok (.goto 777, 3) := by decide +kernel
theorem dL_law_671 : decode cL_law 671 = .ok (.aload_n 1, 1) := by decide +kernel
theorem dL_law_672 : decode cL_law 672 = .ok (.aload_n 0, 1) := by decide +kernel
theorem dL_law_673 : decode cL_law 673 = .ok (.iload_n 3, 1) := by decide +kernel
theorem dL_law_674 : decode cL_law 674 = .ok (.iconst 1, 1) := by decide +kernel
theorem dL_law_675 : decode cL_law 675 = .ok (.iadd, 1) := by decide +kernel
theorem dL_law_676 : decode cL_law 676 = .ok (.iaload, 1) := by decide +kernel
theorem dL_law_677 : decode cL_law 677 = .ok (.aload_n 0, 1) := by decide +kernel
theorem dL_law_678 : decode cL_law 678 = .ok (.iload_n 3, 1) := by decide +kernel
theorem dL_law_679 : decode cL_law 679 = .ok (.iconst 2, 1) := by decide +kernel
theorem dL_law_680 : decode cL_law 680 = .ok (.iadd, 1) := by decide +kernel
theorem dL_law_681 : decode cL_law 681 = .ok (.iaload, 1) := by decide +kernel
theorem dL_law_682 : decode cL_law 682 = .ok (.invokevirtual 74, 3) := by decide +kernel
theorem dL_law_685 : decode cL_law 685 = .ok (.pop, 1) := by decide +kernel
theorem dL_law_686 : decode cL_law 686 = .ok (.aload_n 2, 1) := by decide +kernel
theorem dL_law_687 : decode cL_law 687 = .ok (.aload_n 0, 1) := by decide +kernel
theorem dL_law_688 : decode cL_law 688 = .ok (.iload_n 3, 1) := by decide +kernel
theorem dL_law_689 : decode cL_law 689 = .ok (.iconst 1, 1) := by decide +kernel
theorem dL_law_690 : decode cL_law 690 = .ok (.iadd, 1) := by decide +kernel
theorem dL_law_691 : decode cL_law 691 = .ok (.iaload, 1) := by decide +kernel
theorem dL_law_692 : decode cL_law 692 = .ok (.aload_n 0, 1) := by decide +kernel
theorem dL_law_693 : decode cL_law 693 = .ok (.iload_n 3, 1) := by decide +kernel
theorem dL_law_694 : decode cL_law 694 = .ok (.iconst 2, 1) := by decide +kernel
theorem dL_law_695 : decode cL_law 695 = .ok (.iadd, 1) := by decide +kernel
theorem dL_law_696 : decode cL_law 696 = .ok (.iaload, 1) := by decide +kernel
theorem dL_law_697 : decode cL_law 697 = .ok (.invokevirtual 77, 3) := by decide +kernel
theorem dL_law_700 : decode cL_law 700 = .ok (.pop, 1) := by decide +kernel
theorem dL_law_701 : decode cL_law 701 = .ok (.goto 744, 3) := by decide +kernel
theorem dL_law_704 : decode cL_law 704 = .ok (.aload_n 1, 1) := by decide +kernel
theorem dL_law_705 : decode cL_law 705 = .ok (.aload_n 0, 1) := by decide +kernel
theorem dL_law_706 : decode cL_law 706 = .ok (.iload_n 3, 1) := by decide +kernel
theorem dL_law_707 : decode cL_law 707 = .ok (.iconst 1, 1) := by decide +kernel
theorem dL_law_708 : decode cL_law 708 = .ok (.iadd, 1) := by decide +kernel
theorem dL_law_709 : decode cL_law 709 = .ok (.iaload, 1) := by decide +kernel
theorem dL_law_710 : decode cL_law 710 = .ok (.aload_n 0, 1) := by decide +kernel
theorem dL_law_711 : decode cL_law 711 = .ok (.iload_n 3, 1) := by decide +kernel
theorem dL_law_712 : decode cL_law 712 = .ok (.iconst 2, 1) := by decide +kernel
theorem dL_law_713 : decode cL_law 713 = .ok (.iadd, 1) := by decide +kernel
theorem dL_law_714 : decode cL_law 714 = .ok (.iaload, 1) := by decide +kernel
theorem dL_law_715 : decode cL_law 715 = .ok (.aload_n 0, 1) := by decide +kernel
theorem dL_law_716 : decode cL_law 716 = .ok (.iload_n 3, 1) := by decide +kernel
theorem dL_law_717 : decode cL_law 717 = .ok (.iconst 3, 1) := by decide +kernel
theorem dL_law_718 : decode cL_law 718 = .ok (.iadd, 1) := by decide +kernel
theorem dL_law_719 : decode cL_law 719 = .ok (.iaload, 1) := by decide +kernel
theorem dL_law_720 : decode cL_law 720 = .ok (.aload_n 0, 1) := by decide +kernel
theorem dL_law_721 : decode cL_law 721 = .ok (.iload_n 3, 1) := by decide +kernel
theorem dL_law_722 : decode cL_law 722 = .ok (.iconst 4, 1) := by decide +kernel
theorem dL_law_723 : decode cL_law 723 = .ok (.iadd, 1) := by decide +kernel
theorem dL_law_724 : decode cL_law 724 = .ok (.iaload, 1) := by decide +kernel
theorem dL_law_725 : decode cL_law 725 = .ok (.invokevirtual 78, 3) := by decide +kernel
theorem dL_law_728 : decode cL_law 728 = .ok (.pop, 1) := by decide +kernel
theorem dL_law_729 : decode cL_law 729 = .ok (.aload_n 2, 1) := by decide +kernel
theorem dL_law_730 : decode cL_law 730 = .ok (.aload_n 0, 1) := by decide +kernel
theorem dL_law_731 : decode cL_law 731 = .ok (.iload_n 3, 1) := by decide +kernel
theorem dL_law_732 : decode cL_law 732 = .ok (.iconst 1, 1) := by decide +kernel
theorem dL_law_733 : decode cL_law 733 = .ok (.iadd, 1) := by decide +kernel
theorem dL_law_734 : decode cL_law 734 = .ok (.iaload, 1) := by decide +kernel
theorem dL_law_735 : decode cL_law 735 = .ok (.aload_n 0, 1) := by decide +kernel
theorem dL_law_736 : decode cL_law 736 = .ok (.iload_n 3, 1) := by decide +kernel
theorem dL_law_737 : decode cL_law 737 = .ok (.iconst 2, 1) := by decide +kernel
theorem dL_law_738 : decode cL_law 738 = .ok (.iadd, 1) := by decide +kernel
theorem dL_law_739 : decode cL_law 739 = .ok (.iaload, 1) := by decide +kernel
theorem dL_law_740 : decode cL_law 740 = .ok (.aload_n 0, 1) := by decide +kernel
theorem dL_law_741 : decode cL_law 741 = .ok (.iload_n 3, 1) := by decide +kernel
theorem dL_law_742 : decode cL_law 742 = .ok (.iconst 3, 1) := by decide +kernel
theorem dL_law_743 : decode cL_law 743 = .ok (.iadd, 1) := by decide +kernel
theorem dL_law_744 : decode cL_law 744 = .ok (.iaload, 1) := by decide +kernel
theorem dL_law_745 : decode cL_law 745 = .ok (.aload_n 0, 1) := by decide +kernel
theorem dL_law_746 : decode cL_law 746 = .ok (.iload_n 3, 1) := by decide +kernel
theorem dL_law_747 : decode cL_law 747 = .ok (.iconst 4, 1) := by decide +kernel
theorem dL_law_748 : decode cL_law 748 = .ok (.iadd, 1) := by decide +kernel
theorem dL_law_749 : decode cL_law 749 = .ok (.iaload, 1) := by decide +kernel
theorem dL_law_750 : decode cL_law 750 = .ok (.invokevirtual 82, 3) := by decide +kernel
theorem dL_law_753 : decode cL_law 753 = .ok (.pop, 1) := by decide +kernel
theorem dL_law_754 : decode cL_law 754 = .ok (.goto 691, 3) := by decide +kernel
theorem dL_law_757 : decode cL_law 757 = .ok (.aload_n 1, 1) := by decide +kernel
theorem dL_law_758 : decode cL_law 758 = .ok (.aload_n 0, 1) := by decide +kernel
theorem dL_law_759 : decode cL_law 759 = .ok (.iload_n 3, 1) := by decide +kernel
theorem dL_law_760 : decode cL_law 760 = .ok (.iconst 1, 1) := by decide +kernel
theorem dL_law_761 : decode cL_law 761 = .ok (.iadd, 1) := by decide +kernel
theorem dL_law_762 : decode cL_law 762 = .ok (.iaload, 1) := by decide +kernel
theorem dL_law_763 : decode cL_law 763 = .ok (.aload_n 0, 1) := by decide +kernel
theorem dL_law_764 : decode cL_law 764 = .ok (.iload_n 3, 1) := by decide +kernel
theorem dL_law_765 : decode cL_law 765 = .ok (.iconst 2, 1) := by decide +kernel
theorem dL_law_766 : decode cL_law 766 = .ok (.iadd, 1) := by decide +kernel
theorem dL_law_767 : decode cL_law 767 = .ok (.iaload, 1) := by decide +kernel
theorem dL_law_768 : decode cL_law 768 = .ok (.aload_n 0, 1) := by decide +kernel
theorem dL_law_769 : decode cL_law 769 = .ok (.iload_n 3, 1) := by decide +kernel
theorem dL_law_770 : decode cL_law 770 = .ok (.iconst 3, 1) := by decide +kernel
theorem dL_law_771 : decode cL_law 771 = .ok (.iadd, 1) := by decide +kernel
theorem dL_law_772 : decode cL_law 772 = .ok (.iaload, 1) := by decide +kernel
theorem dL_law_773 : decode cL_law 773 = .ok (.invokevirtual 83, 3) := by decide +kernel
theorem dL_law_776 : decode cL_law 776 = .ok (.pop, 1) := by decide +kernel
theorem dL_law_777 : decode cL_law 777 = .ok (.aload_n 2, 1) := by decide +kernel
theorem dL_law_778 : decode cL_law 778 = .ok (.aload_n 0, 1) := by decide +kernel
theorem dL_law_779 : decode cL_law 779 = .ok (.iload_n 3, 1) := by decide +kernel
theorem dL_law_780 : decode cL_law 780 = .ok (.iconst 1, 1) := by decide +kernel
theorem dL_law_781 : decode cL_law 781 = .ok (.iadd, 1) := by decide +kernel
theorem dL_law_782 : decode cL_law 782 = .ok (.iaload, 1) := by decide +kernel
theorem dL_law_783 : decode cL_law 783 = .ok (.aload_n 0, 1) := by decide +kernel
theorem dL_law_784 : decode cL_law 784 = .ok (.iload_n 3, 1) := by decide +kernel
theorem dL_law_785 : decode cL_law 785 = .ok (.iconst 2, 1) := by decide +kernel
theorem dL_law_786 : decode cL_law 786 = .ok (.iadd, 1) := by decide +kernel
theorem dL_law_787 : decode cL_law 787 = .ok (.iaload, 1) := by decide +kernel
theorem dL_law_788 : decode cL_law 788 = .ok (.aload_n 0, 1) := by decide +kernel
theorem dL_law_789 : decode cL_law 789 = .ok (.iload_n 3, 1) := by decide +kernel
theorem dL_law_790 : decode cL_law 790 = .ok (.iconst 3, 1) := by decide +kernel
theorem dL_law_791 : decode cL_law 791 = .ok (.iadd, 1) := by decide +kernel
theorem dL_law_792 : decode cL_law 792 = .ok (.iaload, 1) := by decide +kernel
theorem dL_law_793 : decode cL_law 793 = .ok (.invokevirtual 86, 3) := by decide +kernel
theorem dL_law_796 : decode cL_law 796 = .ok (.pop, 1) := by decide +kernel
theorem dL_law_797 : decode cL_law 797 = .ok (.goto 648, 3) := by decide +kernel
theorem dL_law_800 : decode cL_law 800 = .ok (.aload_n 1, 1) := by decide +kernel
theorem dL_law_801 : decode cL_law 801 = .ok (.aload_n 0, 1) := by decide +kernel
theorem dL_law_802 : decode cL_law 802 = .ok (.iload_n 3, 1) := by decide +kernel
theorem dL_law_803 : decode cL_law 803 = .ok (.iconst 1, 1) := by decide +kernel
theorem dL_law_804 : decode cL_law 804 = .ok (.iadd, 1) := by decide +kernel
theorem dL_law_805 : decode cL_law 805 = .ok (.iaload, 1) := by decide +kernel
theorem dL_law_806 : decode cL_law 806 = .ok (.aload_n 0, 1) := by decide +kernel
theorem dL_law_807 : decode cL_law 807 = .ok (.iload_n 3, 1) := by decide +kernel
theorem dL_law_808 : decode cL_law 808 = .ok (.iconst 2, 1) := by decide +kernel
theorem dL_law_809 : decode cL_law 809 = .ok (.iadd, 1) := by decide +kernel
theorem dL_law_810 : decode cL_law 810 = .ok (.iaload, 1) := by decide +kernel
theorem dL_law_811 : decode cL_law 811 = .ok (.aload_n 0, 1) := by decide +kernel
theorem dL_law_812 : decode cL_law 812 = .ok (.iload_n 3, 1) := by decide +kernel
theorem dL_law_813 : decode cL_law 813 = .ok (.iconst 3, 1) := by decide +kernel
theorem dL_law_814 : decode cL_law 814 = .ok (.iadd, 1) := by decide +kernel
theorem dL_law_815 : decode cL_law 815 = .ok (.iaload, 1) := by decide +kernel
theorem dL_law_816 : decode cL_law 816 = .ok (.aload_n 0, 1) := by decide +kernel
theorem dL_law_817 : decode cL_law 817 = .ok (.iload_n 3, 1) := by decide +kernel
theorem dL_law_818 : decode cL_law 818 = .ok (.iconst 4, 1) := by decide +kernel
theorem dL_law_819 : decode cL_law 819 = .ok (.iadd, 1) := by decide +kernel
theorem dL_law_820 : decode cL_law 820 = .ok (.iaload, 1) := by decide +kernel
theorem dL_law_821 : decode cL_law 821 = .ok (.invokevirtual 87, 3) := by decide +kernel
theorem dL_law_824 : decode cL_law 824 = .ok (.pop, 1) := by decide +kernel
theorem dL_law_825 : decode cL_law 825 = .ok (.aload_n 2, 1) := by decide +kernel
theorem dL_law_826 : decode cL_law 826 = .ok (.aload_n 0, 1) := by decide +kernel
theorem dL_law_827 : decode cL_law 827 = .ok (.iload_n 3, 1) := by decide +kernel
theorem dL_law_828 : decode cL_law 828 = .ok (.iconst 1, 1) := by decide +kernel
theorem dL_law_829 : decode cL_law 829 = .ok (.iadd, 1) := by decide +kernel
theorem dL_law_830 : decode cL_law 830 = .ok (.iaload, 1) := by decide +kernel
theorem dL_law_831 : decode cL_law 831 = .ok (.aload_n 0, 1) := by decide +kernel
theorem dL_law_832 : decode cL_law 832 = .ok (.iload_n 3, 1) := by decide +kernel
theorem dL_law_833 : decode cL_law 833 = .ok (.iconst 2, 1) := by decide +kernel
theorem dL_law_834 : decode cL_law 834 = .ok (.iadd, 1) := by decide +kernel
theorem dL_law_835 : decode cL_law 835 = .ok (.iaload, 1) := by decide +kernel
theorem dL_law_836 : decode cL_law 836 = .ok (.aload_n 0, 1) := by decide +kernel
theorem dL_law_837 : decode cL_law 837 = .ok (.iload_n 3, 1) := by decide +kernel
theorem dL_law_838 : decode cL_law 838 = .ok (.iconst 3, 1) := by decide +kernel
theorem dL_law_839 : decode cL_law 839 = .ok (.iadd, 1) := by decide +kernel
theorem dL_law_840 : decode cL_law 840 = .ok (.iaload, 1) := by decide +kernel
theorem dL_law_841 : decode cL_law 841 = .ok (.aload_n 0, 1) := by decide +kernel
theorem dL_law_842 : decode cL_law 842 = .ok (.iload_n 3, 1) := by decide +kernel
theorem dL_law_843 : decode cL_law 843 = .ok (.iconst 4, 1) := by decide +kernel
theorem dL_law_844 : decode cL_law 844 = .ok (.iadd, 1) := by decide +kernel
theorem dL_law_845 : decode cL_law 845 = .ok (.iaload, 1) := by decide +kernel
theorem dL_law_846 : decode cL_law 846 = .ok (.invokevirtual 90, 3) := by decide +kernel
theorem dL_law_849 : decode cL_law 849 = .ok (.pop, 1) := by decide +kernel
theorem dL_law_850 : decode cL_law 850 = .ok (.goto 595, 3) := by decide +kernel
theorem dL_law_853 : decode cL_law 853 = .ok (.aload_n 1, 1) := by decide +kernel
theorem dL_law_854 : decode cL_law 854 = .ok (.aload_n 0, 1) := by decide +kernel
theorem dL_law_855 : decode cL_law 855 = .ok (.iload_n 3, 1) := by decide +kernel
theorem dL_law_856 : decode cL_law 856 = .ok (.iconst 1, 1) := by decide +kernel
theorem dL_law_857 : decode cL_law 857 = .ok (.iadd, 1) := by decide +kernel
theorem dL_law_858 : decode cL_law 858 = .ok (.iaload, 1) := by decide +kernel
theorem dL_law_859 : decode cL_law 859 = .ok (.aload_n 0, 1) := by decide +kernel
theorem dL_law_860 : decode cL_law 860 = .ok (.iload_n 3, 1) := by decide +kernel
theorem dL_law_861 : decode cL_law 861 = .ok (.iconst 2, 1) := by decide +kernel
theorem dL_law_862 : decode cL_law 862 = .ok (.iadd, 1) := by decide +kernel
theorem dL_law_863 : decode cL_law 863 = .ok (.iaload, 1) := by decide +kernel
theorem dL_law_864 : decode cL_law 864 = .ok (.aload_n 0, 1) := by decide +kernel
theorem dL_law_865 : decode cL_law 865 = .ok (.iload_n 3, 1) := by decide +kernel
theorem dL_law_866 : decode cL_law 866 = .ok (.iconst 3, 1) := by decide +kernel
theorem dL_law_867 : decode cL_law 867 = .ok (.iadd, 1) := by decide +kernel
theorem dL_law_868 : decode cL_law 868 = .ok (.iaload, 1) := by decide +kernel
theorem dL_law_869 : decode cL_law 869 = .ok (.invokevirtual 91, 3) := by decide +kernel
theorem dL_law_872 : decode cL_law 872 = .ok (.pop, 1) := by decide +kernel
theorem dL_law_873 : decode cL_law 873 = .ok (.aload_n 2, 1) := by decide +kernel
theorem dL_law_874 : decode cL_law 874 = .ok (.aload_n 0, 1) := by decide +kernel
theorem dL_law_875 : decode cL_law 875 = .ok (.iload_n 3, 1) := by decide +kernel
theorem dL_law_876 : decode cL_law 876 = .ok (.iconst 1, 1) := by decide +kernel
theorem dL_law_877 : decode cL_law 877 = .ok (.iadd, 1) := by decide +kernel
theorem dL_law_878 : decode cL_law 878 = .ok (.iaload, 1) := by decide +kernel
theorem dL_law_879 : decode cL_law 879 = .ok (.aload_n 0, 1) := by decide +kernel
theorem dL_law_880 : decode cL_law 880 = .ok (.iload_n 3, 1) := by decide +kernel
theorem dL_law_881 : decode cL_law 881 = .ok (.iconst 2, 1) := by decide +kernel
theorem dL_law_882 : decode cL_law 882 = .ok (.iadd, 1) := by decide +kernel
theorem dL_law_883 : decode cL_law 883 = .ok (.iaload, 1) := by decide +kernel
theorem dL_law_884 : decode cL_law 884 = .ok (.aload_n 0, 1) := by decide +kernel
theorem dL_law_885 : decode cL_law 885 = .ok (.iload_n 3, 1) := by decide +kernel
theorem dL_law_886 : decode cL_law 886 = .ok (.iconst 3, 1) := by decide +kernel
theorem dL_law_887 : decode cL_law 887 = .ok (.iadd, 1) := by decide +kernel
theorem dL_law_888 : decode cL_law 888 = .ok (.iaload, 1) := by decide +kernel
theorem dL_law_889 : decode cL_law 889 = .ok (.invokevirtual 94, 3) := by decide +kernel
theorem dL_law_892 : decode cL_law 892 = .ok (.pop, 1) := by decide +kernel
theorem dL_law_893 : decode cL_law 893 = .ok (.goto 552, 3) := by decide +kernel
theorem dL_law_896 : decode cL_law 896 = .ok (.aload_n 1, 1) := by decide +kernel
theorem dL_law_897 : decode cL_law 897 = .ok (.aload_n 0, 1) := by decide +kernel
theorem dL_law_898 : decode cL_law 898 = .ok (.iload_n 3, 1) := by decide +kernel
theorem dL_law_899 : decode cL_law 899 = .ok (.iconst 1, 1) := by decide +kernel
theorem dL_law_900 : decode cL_law 900 = .ok (.iadd, 1) := by decide +kernel
theorem dL_law_901 : decode cL_law 901 = .ok (.iaload, 1) := by decide +kernel
theorem dL_law_902 : decode cL_law 902 = .ok (.aload_n 0, 1) := by decide +kernel
theorem dL_law_903 : decode cL_law 903 = .ok (.iload_n 3, 1) := by decide +kernel
theorem dL_law_904 : decode cL_law 904 = .ok (.iconst 2, 1) := by decide +kernel
theorem dL_law_905 : decode cL_law 905 = .ok (.iadd, 1) := by decide +kernel
theorem dL_law_906 : decode cL_law 906 = .ok (.iaload, 1) := by decide +kernel
theorem dL_law_907 : decode cL_law 907 = .ok (.aload_n 0, 1) := by decide +kernel
theorem dL_law_908 : decode cL_law 908 = .ok (.iload_n 3, 1) := by decide +kernel
theorem dL_law_909 : decode cL_law 909 = .ok (.iconst 3, 1) := by decide +kernel
theorem dL_law_910 : decode cL_law 910 = .ok (.iadd, 1) := by decide +kernel
theorem dL_law_911 : decode cL_law 911 = .ok (.iaload, 1) := by decide +kernel
theorem dL_law_912 : decode cL_law 912 = .ok (.aload_n 0, 1) := by decide +kernel
theorem dL_law_913 : decode cL_law 913 = .ok (.iload_n 3, 1) := by decide +kernel
theorem dL_law_914 : decode cL_law 914 = .ok (.iconst 4, 1) := by decide +kernel
theorem dL_law_915 : decode cL_law 915 = .ok (.iadd, 1) := by decide +kernel
theorem dL_law_916 : decode cL_law 916 = .ok (.iaload, 1) := by decide +kernel
theorem dL_law_917 : decode cL_law 917 = .ok (.invokevirtual 95, 3) := by decide +kernel
theorem dL_law_920 : decode cL_law 920 = .ok (.pop, 1) := by decide +kernel
theorem dL_law_921 : decode cL_law 921 = .ok (.aload_n 2, 1) := by decide +kernel
theorem dL_law_922 : decode cL_law 922 = .ok (.aload_n 0, 1) := by decide +kernel
theorem dL_law_923 : decode cL_law 923 = .ok (.iload_n 3, 1) := by decide +kernel
theorem dL_law_924 : decode cL_law 924 = .ok (.iconst 1, 1) := by decide +kernel
theorem dL_law_925 : decode cL_law 925 = .ok (.iadd, 1) := by decide +kernel
theorem dL_law_926 : decode cL_law 926 = .ok (.iaload, 1) := by decide +kernel
theorem dL_law_927 : decode cL_law 927 = .ok (.aload_n 0, 1) := by decide +kernel
theorem dL_law_928 : decode cL_law 928 = .ok (.iload_n 3, 1) := by decide +kernel
theorem dL_law_929 : decode cL_law 929 = .ok (.iconst 2, 1) := by decide +kernel
theorem dL_law_930 : decode cL_law 930 = .ok (.iadd, 1) := by decide +kernel
theorem dL_law_931 : decode cL_law 931 = .ok (.iaload, 1) := by decide +kernel
theorem dL_law_932 : decode cL_law 932 = .ok (.aload_n 0, 1) := by decide +kernel
theorem dL_law_933 : decode cL_law 933 = .ok (.iload_n 3, 1) := by decide +kernel
theorem dL_law_934 : decode cL_law 934 = .ok (.iconst 3, 1) := by decide +kernel
theorem dL_law_935 : decode cL_law 935 = .ok (.iadd, 1) := by decide +kernel
theorem dL_law_936 : decode cL_law 936 = .ok (.iaload, 1) := by decide +kernel
theorem dL_law_937 : decode cL_law 937 = .ok (.aload_n 0, 1) := by decide +kernel
theorem dL_law_938 : decode cL_law 938 = .ok (.iload_n 3, 1) := by decide +kernel
theorem dL_law_939 : decode cL_law 939 = .ok (.iconst 4, 1) := by decide +kernel
theorem dL_law_940 : decode cL_law 940 = .ok (.iadd, 1) := by decide +kernel
theorem dL_law_941 : decode cL_law 941 = .ok (.iaload, 1) := by decide +kernel
theorem dL_law_942 : decode cL_law 942 = .ok (.invokevirtual 98, 3) := by decide +kernel
theorem dL_law_945 : decode cL_law 945 = .ok (.pop, 1) := by decide +kernel
theorem dL_law_946 : decode cL_law 946 = .ok (.goto 499, 3) := by decide +kernel
theorem dL_law_949 : decode cL_law 949 = .ok (.aload_n 1, 1) := by decide +kernel
theorem dL_law_950 : decode cL_law 950 = .ok (.aload_n 0, 1) := by decide +kernel
theorem dL_law_951 : decode cL_law 951 = .ok (.iload_n 3, 1) := by decide +kernel
theorem dL_law_952 : decode cL_law 952 = .ok (.iconst 1, 1) := by decide +kernel
theorem dL_law_953 : decode cL_law 953 = .ok (.iadd, 1) := by decide +kernel
theorem dL_law_954 : decode cL_law 954 = .ok (.iaload, 1) := by decide +kernel
theorem dL_law_955 : decode cL_law 955 = .ok (.aload_n 0, 1) := by decide +kernel
theorem dL_law_956 : decode cL_law 956 = .ok (.iload_n 3, 1) := by decide +kernel
theorem dL_law_957 : decode cL_law 957 = .ok (.iconst 2, 1) := by decide +kernel
theorem dL_law_958 : decode cL_law 958 = .ok (.iadd, 1) := by decide +kernel
theorem dL_law_959 : decode cL_law 959 = .ok (.iaload, 1) := by decide +kernel
theorem dL_law_960 : decode cL_law 960 = .ok (.aload_n 0, 1) := by decide +kernel
theorem dL_law_961 : decode cL_law 961 = .ok (.iload_n 3, 1) := by decide +kernel
theorem dL_law_962 : decode cL_law 962 = .ok (.iconst 3, 1) := by decide +kernel
theorem dL_law_963 : decode cL_law 963 = .ok (.iadd, 1) := by decide +kernel
theorem dL_law_964 : decode cL_law 964 = .ok (.iaload, 1) := by decide +kernel
theorem dL_law_965 : decode cL_law 965 = .ok (.invokevirtual 99, 3) := by decide +kernel
theorem dL_law_968 : decode cL_law 968 = .ok (.pop, 1) := by decide +kernel
theorem dL_law_969 : decode cL_law 969 = .ok (.aload_n 2, 1) := by decide +kernel
theorem dL_law_970 : decode cL_law 970 = .ok (.aload_n 0, 1) := by decide +kernel
theorem dL_law_971 : decode cL_law 971 = .ok (.iload_n 3, 1) := by decide +kernel
theorem dL_law_972 : decode cL_law 972 = .ok (.iconst 1, 1) := by decide +kernel
theorem dL_law_973 : decode cL_law 973 = .ok (.iadd, 1) := by decide +kernel
theorem dL_law_974 : decode cL_law 974 = .ok (.iaload, 1) := by decide +kernel
theorem dL_law_975 : decode cL_law 975 = .ok (.aload_n 0, 1) := by decide +kernel
theorem dL_law_976 : decode cL_law 976 = .ok (.iload_n 3, 1) := by decide +kernel
theorem dL_law_977 : decode cL_law 977 = .ok (.iconst 2, 1) := by decide +kernel
theorem dL_law_978 : decode cL_law 978 = .ok (.iadd, 1) := by decide +kernel
theorem dL_law_979 : decode cL_law 979 = .ok (.iaload, 1) := by decide +kernel
theorem dL_law_980 : decode cL_law 980 = .ok (.aload_n 0, 1) := by decide +kernel
theorem dL_law_981 : decode cL_law 981 = .ok (.iload_n 3, 1) := by decide +kernel
theorem dL_law_982 : decode cL_law 982 = .ok (.iconst 3, 1) := by decide +kernel
theorem dL_law_983 : decode cL_law 983 = .ok (.iadd, 1) := by decide +kernel
theorem dL_law_984 : decode cL_law 984 = .ok (.iaload, 1) := by decide +kernel
theorem dL_law_985 : decode cL_law 985 = .ok (.invokevirtual 102, 3) := by decide +kernel
theorem dL_law_988 : decode cL_law 988 = .ok (.pop, 1) := by decide +kernel
theorem dL_law_989 : decode cL_law 989 = .ok (.goto 456, 3) := by decide +kernel
theorem dL_law_992 : decode cL_law 992 = .ok (.aload_n 1, 1) := by decide +kernel
theorem dL_law_993 : decode cL_law 993 = .ok (.aload_n 0, 1) := by decide +kernel
theorem dL_law_994 : decode cL_law 994 = .ok (.iload_n 3, 1) := by decide +kernel
theorem dL_law_995 : decode cL_law 995 = .ok (.iconst 1, 1) := by decide +kernel
theorem dL_law_996 : decode cL_law 996 = .ok (.iadd, 1) := by decide +kernel
theorem dL_law_997 : decode cL_law 997 = .ok (.iaload, 1) := by decide +kernel
theorem dL_law_998 : decode cL_law 998 = .ok (.aload_n 0, 1) := by decide +kernel
theorem dL_law_999 : decode cL_law 999 = .ok (.iload_n 3, 1) := by decide +kernel
theorem dL_law_1000 : decode cL_law 1000 = .ok (.iconst 2, 1) := by decide +kernel
theorem dL_law_1001 : decode cL_law 1001 = .ok (.iadd, 1) := by decide +kernel
theorem dL_law_1002 : decode cL_law 1002 = .ok (.iaload, 1) := by decide +kernel
theorem dL_law_1003 : decode cL_law 1003 = .ok (.invokevirtual 103, 3) := by decide +kernel
theorem dL_law_1006 : decode cL_law 1006 = .ok (.pop, 1) := by decide +kernel
theorem dL_law_1007 : decode cL_law 1007 = .ok (.aload_n 2, 1) := by decide +kernel
theorem dL_law_1008 : decode cL_law 1008 = .ok (.aload_n 0, 1) := by decide +kernel
theorem dL_law_1009 : decode cL_law 1009 = .ok (.iload_n 3, 1) := by decide +kernel
theorem dL_law_1010 : decode cL_law 1010 = .ok (.iconst 1, 1) := by decide +kernel
theorem dL_law_1011 : decode cL_law 1011 = .ok (.iadd, 1) := by decide +kernel
theorem dL_law_1012 : decode cL_law 1012 = .ok (.iaload, 1) := by decide +kernel
theorem dL_law_1013 : decode cL_law 1013 = .ok (.aload_n 0, 1) := by decide +kernel
theorem dL_law_1014 : decode cL_law 1014 = .ok (.iload_n 3, 1) := by decide +kernel
theorem dL_law_1015 : decode cL_law 1015 = .ok (.iconst 2, 1) := by decide +kernel
theorem dL_law_1016 : decode cL_law 1016 = .ok (.iadd, 1) := by decide +kernel
theorem dL_law_1017 : decode cL_law 1017 = .ok (.iaload, 1) := by decide +kernel
theorem dL_law_1018 : decode cL_law 1018 = .ok (.invokevirtual 106, 3) := by decide +kernel
theorem dL_law_1021 : decode cL_law 1021 = .ok (.pop, 1) := by decide +kernel
theorem dL_law_1022 : decode cL_law 1022 = .ok (.goto 423, 3) := by decide +kernel
theorem dL_law_1025 : decode cL_law 1025 = .ok (.aload_n 1, 1) := by decide +kernel
theorem dL_law_1026 : decode cL_law 1026 = .ok (.aload_n 0, 1) := by decide +kernel
theorem dL_law_1027 : decode cL_law 1027 = .ok (.iload_n 3, 1) := by decide +kernel
theorem dL_law_1028 : decode cL_law 1028 = .ok (.iconst 1, 1) := by decide +kernel
theorem dL_law_1029 : decode cL_law 1029 = .ok (.iadd, 1) := by decide +kernel
theorem dL_law_1030 : decode cL_law 1030 = .ok (.iaload, 1) := by decide +kernel
theorem dL_law_1031 : decode cL_law 1031 = .ok (.aload_n 0, 1) := by decide +kernel
theorem dL_law_1032 : decode cL_law 1032 = .ok (.iload_n 3, 1) := by decide +kernel
theorem dL_law_1033 : decode cL_law 1033 = .ok (.iconst 2, 1) := by decide +kernel
theorem dL_law_1034 : decode cL_law 1034 = .ok (.iadd, 1) := by decide +kernel
theorem dL_law_1035 : decode cL_law 1035 = .ok (.iaload, 1) := by decide +kernel
theorem dL_law_1036 : decode cL_law 1036 = .ok (.aload_n 0, 1) := by decide +kernel
theorem dL_law_1037 : decode cL_law 1037 = .ok (.iload_n 3, 1) := by decide +kernel
theorem dL_law_1038 : decode cL_law 1038 = .ok (.iconst 3, 1) := by decide +kernel
theorem dL_law_1039 : decode cL_law 1039 = .ok (.iadd, 1) := by decide +kernel
theorem dL_law_1040 : decode cL_law 1040 = .ok (.iaload, 1) := by decide +kernel
theorem dL_law_1041 : decode cL_law 1041 = .ok (.aload_n 0, 1) := by decide +kernel
theorem dL_law_1042 : decode cL_law 1042 = .ok (.iload_n 3, 1) := by decide +kernel
theorem dL_law_1043 : decode cL_law 1043 = .ok (.iconst 4, 1) := by decide +kernel
theorem dL_law_1044 : decode cL_law 1044 = .ok (.iadd, 1) := by decide +kernel
theorem dL_law_1045 : decode cL_law 1045 = .ok (.iaload, 1) := by decide +kernel
theorem dL_law_1046 : decode cL_law 1046 = .ok (.invokevirtual 107, 3) := by decide +kernel
theorem dL_law_1049 : decode cL_law 1049 = .ok (.pop, 1) := by decide +kernel
theorem dL_law_1050 : decode cL_law 1050 = .ok (.aload_n 2, 1) := by decide +kernel
theorem dL_law_1051 : decode cL_law 1051 = .ok (.aload_n 0, 1) := by decide +kernel
theorem dL_law_1052 : decode cL_law 1052 = .ok (.iload_n 3, 1) := by decide +kernel
theorem dL_law_1053 : decode cL_law 1053 = .ok (.iconst 1, 1) := by decide +kernel
theorem dL_law_1054 : decode cL_law 1054 = .ok (.iadd, 1) := by decide +kernel
theorem dL_law_1055 : decode cL_law 1055 = .ok (.iaload, 1) := by decide +kernel
theorem dL_law_1056 : decode cL_law 1056 = .ok (.aload_n 0, 1) := by decide +kernel
theorem dL_law_1057 : decode cL_law 1057 = .ok (.iload_n 3, 1) := by decide +kernel
theorem dL_law_1058 : decode cL_law 1058 = .ok (.iconst 2, 1) := by decide +kernel
theorem dL_law_1059 : decode cL_law 1059 = .ok (.iadd, 1) := by decide +kernel
theorem dL_law_1060 : decode cL_law 1060 = .ok (.iaload, 1) := by decide +kernel
theorem dL_law_1061 : decode cL_law 1061 = .ok (.aload_n 0, 1) := by decide +kernel
theorem dL_law_1062 : decode cL_law 1062 = .ok (.iload_n 3, 1) := by decide +kernel
theorem dL_law_1063 : decode cL_law 1063 = .ok (.iconst 3, 1) := by decide +kernel
theorem dL_law_1064 : decode cL_law 1064 = .ok (.iadd, 1) := by decide +kernel
theorem dL_law_1065 : decode cL_law 1065 = .ok (.iaload, 1) := by decide +kernel
theorem dL_law_1066 : decode cL_law 1066 = .ok (.aload_n 0, 1) := by decide +kernel
theorem dL_law_1067 : decode cL_law 1067 = .ok (.iload_n 3, 1) := by decide +kernel
theorem dL_law_1068 : decode cL_law 1068 = .ok (.iconst 4, 1) := by decide +kernel
theorem dL_law_1069 : decode cL_law 1069 = .ok (.iadd, 1) := by decide +kernel
theorem dL_law_1070 : decode cL_law 1070 = .ok (.iaload, 1) := by decide +kernel
theorem dL_law_1071 : decode cL_law 1071 = .ok (.invokevirtual 110, 3) := by decide +kernel
theorem dL_law_1074 : decode cL_law 1074 = .ok (.pop, 1) := by decide +kernel
theorem dL_law_1075 : decode cL_law 1075 = .ok (.goto 370, 3) := by decide +kernel
theorem dL_law_1078 : decode cL_law 1078 = .ok (.aload_n 1, 1) := by decide +kernel
theorem dL_law_1079 : decode cL_law 1079 = .ok (.aload_n 0, 1) := by decide +kernel
theorem dL_law_1080 : decode cL_law 1080 = .ok (.iload_n 3, 1) := by decide +kernel
theorem dL_law_1081 : decode cL_law 1081 = .ok (.iconst 1, 1) := by decide +kernel
theorem dL_law_1082 : decode cL_law 1082 = .ok (.iadd, 1) := by decide +kernel
theorem dL_law_1083 : decode cL_law 1083 = .ok (.iaload, 1) := by decide +kernel
theorem dL_law_1084 : decode cL_law 1084 = .ok (.aload_n 0, 1) := by decide +kernel
theorem dL_law_1085 : decode cL_law 1085 = .ok (.iload_n 3, 1) := by decide +kernel
theorem dL_law_1086 : decode cL_law 1086 = .ok (.iconst 2, 1) := by decide +kernel
theorem dL_law_1087 : decode cL_law 1087 = .ok (.iadd, 1) := by decide +kernel
theorem dL_law_1088 : decode cL_law 1088 = .ok (.iaload, 1) := by decide +kernel
theorem dL_law_1089 : decode cL_law 1089 = .ok (.aload_n 0, 1) := by decide +kernel
theorem dL_law_1090 : decode cL_law 1090 = .ok (.iload_n 3, 1) := by decide +kernel
theorem dL_law_1091 : decode cL_law 1091 = .ok (.iconst 3, 1) := by decide +kernel
theorem dL_law_1092 : decode cL_law 1092 = .ok (.iadd, 1) := by decide +kernel
theorem dL_law_1093 : decode cL_law 1093 = .ok (.iaload, 1) := by decide +kernel
theorem dL_law_1094 : decode cL_law 1094 = .ok (.invokevirtual 111, 3) := by decide +kernel
theorem dL_law_1097 : decode cL_law 1097 = .ok (.pop, 1) := by decide +kernel
theorem dL_law_1098 : decode cL_law 1098 = .ok (.aload_n 2, 1) := by decide +kernel
theorem dL_law_1099 : decode cL_law 1099 = .ok (.aload_n 0, 1) := by decide +kernel
theorem dL_law_1100 : decode cL_law 1100 = .ok (.iload_n 3, 1) := by decide +kernel
theorem dL_law_1101 : decode cL_law 1101 = .ok (.iconst 1, 1) := by decide +kernel
theorem dL_law_1102 : decode cL_law 1102 = .ok (.iadd, 1) := by decide +kernel
theorem dL_law_1103 : decode cL_law 1103 = .ok (.iaload, 1) := by decide +kernel
theorem dL_law_1104 : decode cL_law 1104 = .ok (.aload_n 0, 1) := by decide +kernel
theorem dL_law_1105 : decode cL_law 1105 = .ok (.iload_n 3, 1) := by decide +kernel
theorem dL_law_1106 : decode cL_law 1106 = .ok (.iconst 2, 1) := by decide +kernel
theorem dL_law_1107 : decode cL_law 1107 = .ok (.iadd, 1) := by decide +kernel
theorem dL_law_1108 : decode cL_law 1108 = .ok (.iaload, 1) := by decide +kernel
theorem dL_law_1109 : decode cL_law 1109 = .ok (.aload_n 0, 1) := by decide +kernel
theorem dL_law_1110 : decode cL_law 1110 = .ok (.iload_n 3, 1) := by decide +kernel
theorem dL_law_1111 : decode cL_law 1111 = .ok (.iconst 3, 1) := by decide +kernel
theorem dL_law_1112 : decode cL_law 1112 = .ok (.iadd, 1) := by decide +kernel
theorem dL_law_1113 : decode cL_law 1113 = .ok (.iaload, 1) := by decide +kernel
theorem dL_law_1114 : decode cL_law 1114 = .ok (.invokevirtual 114, 3) := by decide +kernel
theorem dL_law_1117 : decode cL_law 1117 = .ok (.pop, 1) := by decide +kernel
theorem dL_law_1118 : decode cL_law 1118 = .ok (.goto 327, 3) := by decide +kernel
theorem dL_law_1121 : decode cL_law 1121 = .ok (.aload_n 1, 1) := by decide +kernel
theorem dL_law_1122 : decode cL_law 1122 = .ok (.aload_n 0, 1) := by decide +kernel
theorem dL_law_1123 : decode cL_law 1123 = .ok (.iload_n 3, 1) := by decide +kernel
theorem dL_law_1124 : decode cL_law 1124 = .ok (.iconst 1, 1) := by decide +kernel
theorem dL_law_1125 : decode cL_law 1125 = .ok (.iadd, 1) := by decide +kernel
theorem dL_law_1126 : decode cL_law 1126 = .ok (.iaload, 1) := by decide +kernel
theorem dL_law_1127 : decode cL_law 1127 = .ok (.aload_n 0, 1) := by decide +kernel
theorem dL_law_1128 : decode cL_law 1128 = .ok (.iload_n 3, 1) := by decide +kernel
theorem dL_law_1129 : decode cL_law 1129 = .ok (.iconst 2, 1) := by decide +kernel
theorem dL_law_1130 : decode cL_law 1130 = .ok (.iadd, 1) := by decide +kernel
theorem dL_law_1131 : decode cL_law 1131 = .ok (.iaload, 1) := by decide +kernel
theorem dL_law_1132 : decode cL_law 1132 = .ok (.aload_n 0, 1) := by decide +kernel
theorem dL_law_1133 : decode cL_law 1133 = .ok (.iload_n 3, 1) := by decide +kernel
theorem dL_law_1134 : decode cL_law 1134 = .ok (.iconst 3, 1) := by decide +kernel
theorem dL_law_1135 : decode cL_law 1135 = .ok (.iadd, 1) := by decide +kernel
theorem dL_law_1136 : decode cL_law 1136 = .ok (.iaload, 1) := by decide +kernel
theorem dL_law_1137 : decode cL_law 1137 = .ok (.invokevirtual 115, 3) := by decide +kernel
theorem dL_law_1140 : decode cL_law 1140 = .ok (.pop, 1) := by decide +kernel
theorem dL_law_1141 : decode cL_law 1141 = .ok (.aload_n 2, 1) := by decide +kernel
theorem dL_law_1142 : decode cL_law 1142 = .ok (.aload_n 0, 1) := by decide +kernel
theorem dL_law_1143 : decode cL_law 1143 = .ok (.iload_n 3, 1) := by decide +kernel
theorem dL_law_1144 : decode cL_law 1144 = .ok (.iconst 1, 1) := by decide +kernel
theorem dL_law_1145 : decode cL_law 1145 = .ok (.iadd, 1) := by decide +kernel
theorem dL_law_1146 : decode cL_law 1146 = .ok (.iaload, 1) := by decide +kernel
theorem dL_law_1147 : decode cL_law 1147 = .ok (.aload_n 0, 1) := by decide +kernel
theorem dL_law_1148 : decode cL_law 1148 = .ok (.iload_n 3, 1) := by decide +kernel
theorem dL_law_1149 : decode cL_law 1149 = .ok (.iconst 2, 1) := by decide +kernel
theorem dL_law_1150 : decode cL_law 1150 = .ok (.iadd, 1) := by decide +kernel
theorem dL_law_1151 : decode cL_law 1151 = .ok (.iaload, 1) := by decide +kernel
theorem dL_law_1152 : decode cL_law 1152 = .ok (.aload_n 0, 1) := by decide +kernel
theorem dL_law_1153 : decode cL_law 1153 = .ok (.iload_n 3, 1) := by decide +kernel
theorem dL_law_1154 : decode cL_law 1154 = .ok (.iconst 3, 1) := by decide +kernel
theorem dL_law_1155 : decode cL_law 1155 = .ok (.iadd, 1) := by decide +kernel
theorem dL_law_1156 : decode cL_law 1156 = .ok (.iaload, 1) := by decide +kernel
theorem dL_law_1157 : decode cL_law 1157 = .ok (.invokevirtual 118, 3) := by decide +kernel
theorem dL_law_1160 : decode cL_law 1160 = .ok (.pop, 1) := by decide +kernel
theorem dL_law_1161 : decode cL_law 1161 = .ok (.goto 284, 3) := by decide +kernel
theorem dL_law_1164 : decode cL_law 1164 = .ok (.aload_n 1, 1) := by decide +kernel
theorem dL_law_1165 : decode cL_law 1165 = .ok (.aload_n 0, 1) := by decide +kernel
theorem dL_law_1166 : decode cL_law 1166 = .ok (.iload_n 3, 1) := by decide +kernel
theorem dL_law_1167 : decode cL_law 1167 = .ok (.iconst 1, 1) := by decide +kernel
theorem dL_law_1168 : decode cL_law 1168 = .ok (.iadd, 1) := by decide +kernel
theorem dL_law_1169 : decode cL_law 1169 = .ok (.iaload, 1) := by decide +kernel
theorem dL_law_1170 : decode cL_law 1170 = .ok (.aload_n 0, 1) := by decide +kernel
theorem dL_law_1171 : decode cL_law 1171 = .ok (.iload_n 3, 1) := by decide +kernel
theorem dL_law_1172 : decode cL_law 1172 = .ok (.iconst 2, 1) := by decide +kernel
theorem dL_law_1173 : decode cL_law 1173 = .ok (.iadd, 1) := by decide +kernel
theorem dL_law_1174 : decode cL_law 1174 = .ok (.iaload, 1) := by decide +kernel
theorem dL_law_1175 : decode cL_law 1175 = .ok (.invokevirtual 119, 3) := by decide +kernel
theorem dL_law_1178 : decode cL_law 1178 = .ok (.pop, 1) := by decide +kernel
theorem dL_law_1179 : decode cL_law 1179 = .ok (.aload_n 2, 1) := by decide +kernel
theorem dL_law_1180 : decode cL_law 1180 = .ok (.aload_n 0, 1) := by decide +kernel
theorem dL_law_1181 : decode cL_law 1181 = .ok (.iload_n 3, 1) := by decide +kernel
theorem dL_law_1182 : decode cL_law 1182 = .ok (.iconst 1, 1) := by decide +kernel
theorem dL_law_1183 : decode cL_law 1183 = .ok (.iadd, 1) := by decide +kernel
theorem dL_law_1184 : decode cL_law 1184 = .ok (.iaload, 1) := by decide +kernel
theorem dL_law_1185 : decode cL_law 1185 = .ok (.aload_n 0, 1) := by decide +kernel
theorem dL_law_1186 : decode cL_law 1186 = .ok (.iload_n 3, 1) := by decide +kernel
theorem dL_law_1187 : decode cL_law 1187 = .ok (.iconst 2, 1) := by decide +kernel
theorem dL_law_1188 : decode cL_law 1188 = .ok (.iadd, 1) := by decide +kernel
theorem dL_law_1189 : decode cL_law 1189 = .ok (.iaload, 1) := by decide +kernel
theorem dL_law_1190 : decode cL_law 1190 = .ok (.invokevirtual 122, 3) := by decide +kernel
theorem dL_law_1193 : decode cL_law 1193 = .ok (.pop, 1) := by decide +kernel
theorem dL_law_1194 : decode cL_law 1194 = .ok (.goto 251, 3) := by decide +kernel
theorem dL_law_1197 : decode cL_law 1197 = .ok (.aload_n 1, 1) := by decide +kernel
theorem dL_law_1198 : decode cL_law 1198 = .ok (.aload_n 0, 1) := by decide +kernel
theorem dL_law_1199 : decode cL_law 1199 = .ok (.iload_n 3, 1) := by decide +kernel
theorem dL_law_1200 : decode cL_law 1200 = .ok (.iconst 1, 1) := by decide +kernel
theorem dL_law_1201 : decode cL_law 1201 = .ok (.iadd, 1) := by decide +kernel
theorem dL_law_1202 : decode cL_law 1202 = .ok (.iaload, 1) := by decide +kernel
theorem dL_law_1203 : decode cL_law 1203 = .ok (.aload_n 0, 1) := by decide +kernel
theorem dL_law_1204 : decode cL_law 1204 = .ok (.iload_n 3, 1) := by decide +kernel
theorem dL_law_1205 : decode cL_law 1205 = .ok (.iconst 2, 1) := by decide +kernel
theorem dL_law_1206 : decode cL_law 1206 = .ok (.iadd, 1) := by decide +kernel
theorem dL_law_1207 : decode cL_law 1207 = .ok (.iaload, 1) := by decide +kernel
theorem dL_law_1208 : decode cL_law 1208 = .ok (.aload_n 0, 1) := by decide +kernel
theorem dL_law_1209 : decode cL_law 1209 = .ok (.iload_n 3, 1) := by decide +kernel
theorem dL_law_1210 : decode cL_law 1210 = .ok (.iconst 3, 1) := by decide +kernel
theorem dL_law_1211 : decode cL_law 1211 = .ok (.iadd, 1) := by decide +kernel
theorem dL_law_1212 : decode cL_law 1212 = .ok (.iaload, 1) := by decide +kernel
theorem dL_law_1213 : decode cL_law 1213 = .ok (.aload_n 0, 1) := by decide +kernel
theorem dL_law_1214 : decode cL_law 1214 = .ok (.iload_n 3, 1) := by decide +kernel
theorem dL_law_1215 : decode cL_law 1215 = .ok (.iconst 4, 1) := by decide +kernel
theorem dL_law_1216 : decode cL_law 1216 = .ok (.iadd, 1) := by decide +kernel
theorem dL_law_1217 : decode cL_law 1217 = .ok (.iaload, 1) := by decide +kernel
theorem dL_law_1218 : decode cL_law 1218 = .ok (.invokevirtual 123, 3) := by decide +kernel
theorem dL_law_1221 : decode cL_law 1221 = .ok (.pop, 1) := by decide +kernel
theorem dL_law_1222 : decode cL_law 1222 = .ok (.aload_n 2, 1) := by decide +kernel
theorem dL_law_1223 : decode cL_law 1223 = .ok (.aload_n 0, 1) := by decide +kernel
theorem dL_law_1224 : decode cL_law 1224 = .ok (.iload_n 3, 1) := by decide +kernel
theorem dL_law_1225 : decode cL_law 1225 = .ok (.iconst 1, 1) := by decide +kernel
theorem dL_law_1226 : decode cL_law 1226 = .ok (.iadd, 1) := by decide +kernel
theorem dL_law_1227 : decode cL_law 1227 = .ok (.iaload, 1) := by decide +kernel
theorem dL_law_1228 : decode cL_law 1228 = .ok (.aload_n 0, 1) := by decide +kernel
theorem dL_law_1229 : decode cL_law 1229 = .ok (.iload_n 3, 1) := by decide +kernel
theorem dL_law_1230 : decode cL_law 1230 = .ok (.iconst 2, 1) := by decide +kernel
theorem dL_law_1231 : decode cL_law 1231 = .ok (.iadd, 1) := by decide +kernel
theorem dL_law_1232 : decode cL_law 1232 = .ok (.iaload, 1) := by decide +kernel
theorem dL_law_1233 : decode cL_law 1233 = .ok (.aload_n 0, 1) := by decide +kernel
theorem dL_law_1234 : decode cL_law 1234 = .ok (.iload_n 3, 1) := by decide +kernel
theorem dL_law_1235 : decode cL_law 1235 = .ok (.iconst 3, 1) := by decide +kernel
theorem dL_law_1236 : decode cL_law 1236 = .ok (.iadd, 1) := by decide +kernel
theorem dL_law_1237 : decode cL_law 1237 = .ok (.iaload, 1) := by decide +kernel
theorem dL_law_1238 : decode cL_law 1238 = .ok (.aload_n 0, 1) := by decide +kernel
theorem dL_law_1239 : decode cL_law 1239 = .ok (.iload_n 3, 1) := by decide +kernel
theorem dL_law_1240 : decode cL_law 1240 = .ok (.iconst 4, 1) := by decide +kernel
theorem dL_law_1241 : decode cL_law 1241 = .ok (.iadd, 1) := by decide +kernel
theorem dL_law_1242 : decode cL_law 1242 = .ok (.iaload, 1) := by decide +kernel
theorem dL_law_1243 : decode cL_law 1243 = .ok (.invokevirtual 126, 3) := by decide +kernel
theorem dL_law_1246 : decode cL_law 1246 = .ok (.pop, 1) := by decide +kernel
theorem dL_law_1247 : decode cL_law 1247 = .ok (.goto 198, 3) := by decide +kernel
theorem dL_law_1250 : decode cL_law 1250 = .ok (.aload_n 1, 1) := by decide +kernel
theorem dL_law_1251 : decode cL_law 1251 = .ok (.aload_n 0, 1) := by decide +kernel
theorem dL_law_1252 : decode cL_law 1252 = .ok (.iload_n 3, 1) := by decide +kernel
theorem dL_law_1253 : decode cL_law 1253 = .ok (.iconst 1, 1) := by decide +kernel
theorem dL_law_1254 : decode cL_law 1254 = .ok (.iadd, 1) := by decide +kernel
theorem dL_law_1255 : decode cL_law 1255 = .ok (.iaload, 1) := by decide +kernel
theorem dL_law_1256 : decode cL_law 1256 = .ok (.aload_n 0, 1) := by decide +kernel
theorem dL_law_1257 : decode cL_law 1257 = .ok (.iload_n 3, 1) := by decide +kernel
theorem dL_law_1258 : decode cL_law 1258 = .ok (.iconst 2, 1) := by decide +kernel
theorem dL_law_1259 : decode cL_law 1259 = .ok (.iadd, 1) := by decide +kernel
theorem dL_law_1260 : decode cL_law 1260 = .ok (.iaload, 1) := by decide +kernel
theorem dL_law_1261 : decode cL_law 1261 = .ok (.aload_n 0, 1) := by decide +kernel
theorem dL_law_1262 : decode cL_law 1262 = .ok (.iload_n 3, 1) := by decide +kernel
theorem dL_law_1263 : decode cL_law 1263 = .ok (.iconst 3, 1) := by decide +kernel
theorem dL_law_1264 : decode cL_law 1264 = .ok (.iadd, 1) := by decide +kernel
theorem dL_law_1265 : decode cL_law 1265 = .ok (.iaload, 1) := by decide +kernel
theorem dL_law_1266 : decode cL_law 1266 = .ok (.invokevirtual 127, 3) := by decide +kernel
theorem dL_law_1269 : decode cL_law 1269 = .ok (.pop, 1) := by decide +kernel
theorem dL_law_1270 : decode cL_law 1270 = .ok (.aload_n 2, 1) := by decide +kernel
theorem dL_law_1271 : decode cL_law 1271 = .ok (.aload_n 0, 1) := by decide +kernel
theorem dL_law_1272 : decode cL_law 1272 = .ok (.iload_n 3, 1) := by decide +kernel
theorem dL_law_1273 : decode cL_law 1273 = .ok (.iconst 1, 1) := by decide +kernel
theorem dL_law_1274 : decode cL_law 1274 = .ok (.iadd, 1) := by decide +kernel
theorem dL_law_1275 : decode cL_law 1275 = .ok (.iaload, 1) := by decide +kernel
theorem dL_law_1276 : decode cL_law 1276 = .ok (.aload_n 0, 1) := by decide +kernel
theorem dL_law_1277 : decode cL_law 1277 = .ok (.iload_n 3, 1) := by decide +kernel
theorem dL_law_1278 : decode cL_law 1278 = .ok (.iconst 2, 1) := by decide +kernel
theorem dL_law_1279 : decode cL_law 1279 = .ok (.iadd, 1) := by decide +kernel
theorem dL_law_1280 : decode cL_law 1280 = .ok (.iaload, 1) := by decide +kernel
theorem dL_law_1281 : decode cL_law 1281 = .ok (.aload_n 0, 1) := by decide +kernel
theorem dL_law_1282 : decode cL_law 1282 = .ok (.iload_n 3, 1) := by decide +kernel
theorem dL_law_1283 : decode cL_law 1283 = .ok (.iconst 3, 1) := by decide +kernel
theorem dL_law_1284 : decode cL_law 1284 = .ok (.iadd, 1) := by decide +kernel
theorem dL_law_1285 : decode cL_law 1285 = .ok (.iaload, 1) := by decide +kernel
theorem dL_law_1286 : decode cL_law 1286 = .ok (.invokevirtual 130, 3) := by decide +kernel
theorem dL_law_1289 : decode cL_law 1289 = .ok (.pop, 1) := by decide +kernel
theorem dL_law_1290 : decode cL_law 1290 = .ok (.goto 155, 3) := by decide +kernel
theorem dL_law_1293 : decode cL_law 1293 = .ok (.aload_n 1, 1) := by decide +kernel
theorem dL_law_1294 : decode cL_law 1294 = .ok (.aload_n 0, 1) := by decide +kernel
theorem dL_law_1295 : decode cL_law 1295 = .ok (.iload_n 3, 1) := by decide +kernel
theorem dL_law_1296 : decode cL_law 1296 = .ok (.iconst 1, 1) := by decide +kernel
theorem dL_law_1297 : decode cL_law 1297 = .ok (.iadd, 1) := by decide +kernel
theorem dL_law_1298 : decode cL_law 1298 = .ok (.iaload, 1) := by decide +kernel
theorem dL_law_1299 : decode cL_law 1299 = .ok (.aload_n 0, 1) := by decide +kernel
theorem dL_law_1300 : decode cL_law 1300 = .ok (.iload_n 3, 1) := by decide +kernel
theorem dL_law_1301 : decode cL_law 1301 = .ok (.iconst 2, 1) := by decide +kernel
theorem dL_law_1302 : decode cL_law 1302 = .ok (.iadd, 1) := by decide +kernel
theorem dL_law_1303 : decode cL_law 1303 = .ok (.iaload, 1) := by decide +kernel
theorem dL_law_1304 : decode cL_law 1304 = .ok (.aload_n 0, 1) := by decide +kernel
theorem dL_law_1305 : decode cL_law 1305 = .ok (.iload_n 3, 1) := by decide +kernel
theorem dL_law_1306 : decode cL_law 1306 = .ok (.iconst 3, 1) := by decide +kernel
theorem dL_law_1307 : decode cL_law 1307 = .ok (.iadd, 1) := by decide +kernel
theorem dL_law_1308 : decode cL_law 1308 = .ok (.iaload, 1) := by decide +kernel
theorem dL_law_1309 : decode cL_law 1309 = .ok (.invokevirtual 131, 3) := by decide +kernel
theorem dL_law_1312 : decode cL_law 1312 = .ok (.pop, 1) := by decide +kernel
theorem dL_law_1313 : decode cL_law 1313 = .ok (.aload_n 2, 1) := by decide +kernel
theorem dL_law_1314 : decode cL_law 1314 = .ok (.aload_n 0, 1) := by decide +kernel
theorem dL_law_1315 : decode cL_law 1315 = .ok (.iload_n 3, 1) := by decide +kernel
theorem dL_law_1316 : decode cL_law 1316 = .ok (.iconst 1, 1) := by decide +kernel
theorem dL_law_1317 : decode cL_law 1317 = .ok (.iadd, 1) := by decide +kernel
theorem dL_law_1318 : decode cL_law 1318 = .ok (.iaload, 1) := by decide +kernel
theorem dL_law_1319 : decode cL_law 1319 = .ok (.aload_n 0, 1) := by decide +kernel
theorem dL_law_1320 : decode cL_law 1320 = .ok (.iload_n 3, 1) := by decide +kernel
theorem dL_law_1321 : decode cL_law 1321 = .ok (.iconst 2, 1) := by decide +kernel
theorem dL_law_1322 : decode cL_law 1322 = .ok (.iadd, 1) := by decide +kernel
theorem dL_law_1323 : decode cL_law 1323 = .ok (.iaload, 1) := by decide +kernel
theorem dL_law_1324 : decode cL_law 1324 = .ok (.aload_n 0, 1) := by decide +kernel
theorem dL_law_1325 : decode cL_law 1325 = .ok (.iload_n 3, 1) := by decide +kernel
theorem dL_law_1326 : decode cL_law 1326 = .ok (.iconst 3, 1) := by decide +kernel
theorem dL_law_1327 : decode cL_law 1327 = .ok (.iadd, 1) := by decide +kernel
theorem dL_law_1328 : decode cL_law 1328 = .ok (.iaload, 1) := by decide +kernel
theorem dL_law_1329 : decode cL_law 1329 = .ok (.invokevirtual 134, 3) := by decide +kernel
theorem dL_law_1332 : decode cL_law 1332 = .ok (.pop, 1) := by decide +kernel
theorem dL_law_1333 : decode cL_law 1333 = .ok (.goto 112, 3) := by decide +kernel
theorem dL_law_1336 : decode cL_law 1336 = .ok (.aload_n 1, 1) := by decide +kernel
theorem dL_law_1337 : decode cL_law 1337 = .ok (.aload_n 0, 1) := by decide +kernel
theorem dL_law_1338 : decode cL_law 1338 = .ok (.iload_n 3, 1) := by decide +kernel
theorem dL_law_1339 : decode cL_law 1339 = .ok (.iconst 1, 1) := by decide +kernel
theorem dL_law_1340 : decode cL_law 1340 = .ok (.iadd, 1) := by decide +kernel
theorem dL_law_1341 : decode cL_law 1341 = .ok (.iaload, 1) := by decide +kernel
theorem dL_law_1342 : decode cL_law 1342 = .ok (.aload_n 0, 1) := by decide +kernel
theorem dL_law_1343 : decode cL_law 1343 = .ok (.iload_n 3, 1) := by decide +kernel
theorem dL_law_1344 : decode cL_law 1344 = .ok (.iconst 2, 1) := by decide +kernel
theorem dL_law_1345 : decode cL_law 1345 = .ok (.iadd, 1) := by decide +kernel
theorem dL_law_1346 : decode cL_law 1346 = .ok (.iaload, 1) := by decide +kernel
theorem dL_law_1347 : decode cL_law 1347 = .ok (.aload_n 0, 1) := by decide +kernel
theorem dL_law_1348 : decode cL_law 1348 = .ok (.iload_n 3, 1) := by decide +kernel
theorem dL_law_1349 : decode cL_law 1349 = .ok (.iconst 3, 1) := by decide +kernel
theorem dL_law_1350 : decode cL_law 1350 = .ok (.iadd, 1) := by decide +kernel
theorem dL_law_1351 : decode cL_law 1351 = .ok (.iaload, 1) := by decide +kernel
theorem dL_law_1352 : decode cL_law 1352 = .ok (.invokevirtual 135, 3) := by decide +kernel
theorem dL_law_1355 : decode cL_law 1355 = .ok (.pop, 1) := by decide +kernel
theorem dL_law_1356 : decode cL_law 1356 = .ok (.aload_n 2, 1) := by decide +kernel
theorem dL_law_1357 : decode cL_law 1357 = .ok (.aload_n 0, 1) := by decide +kernel
theorem dL_law_1358 : decode cL_law 1358 = .ok (.iload_n 3, 1) := by decide +kernel
theorem dL_law_1359 : decode cL_law 1359 = .ok (.iconst 1, 1) := by decide +kernel
theorem dL_law_1360 : decode cL_law 1360 = .ok (.iadd, 1) := by decide +kernel
theorem dL_law_1361 : decode cL_law 1361 = .ok (.iaload, 1) := by decide +kernel
theorem dL_law_1362 : decode cL_law 1362 = .ok (.aload_n 0, 1) := by decide +kernel
theorem dL_law_1363 : decode cL_law 1363 = .ok (.iload_n 3, 1) := by decide +kernel
theorem dL_law_1364 : decode cL_law 1364 = .ok (.iconst 2, 1) := by decide +kernel
theorem dL_law_1365 : decode cL_law 1365 = .ok (.iadd, 1) := by decide +kernel
theorem dL_law_1366 : decode cL_law 1366 = .ok (.iaload, 1) := by decide +kernel
theorem dL_law_1367 : decode cL_law 1367 = .ok (.aload_n 0, 1) := by decide +kernel
theorem dL_law_1368 : decode cL_law 1368 = .ok (.iload_n 3, 1) := by decide +kernel
theorem dL_law_1369 : decode cL_law 1369 = .ok (.iconst 3, 1) := by decide +kernel
theorem dL_law_1370 : decode cL_law 1370 = .ok (.iadd, 1) := by decide +kernel
theorem dL_law_1371 : decode cL_law 1371 = .ok (.iaload, 1) := by decide +kernel
theorem dL_law_1372 : decode cL_law 1372 = .ok (.invokevirtual 138, 3) := by decide +kernel
theorem dL_law_1375 : decode cL_law 1375 = .ok (.pop, 1) := by decide +kernel
theorem dL_law_1376 : decode cL_law 1376 = .ok (.goto 69, 3) := by decide +kernel
theorem dL_law_1379 : decode cL_law 1379 = .ok (.aload_n 1, 1) := by decide +kernel
theorem dL_law_1380 : decode cL_law 1380 = .ok (.aload_n 0, 1) := by decide +kernel
theorem dL_law_1381 : decode cL_law 1381 = .ok (.iload_n 3, 1) := by decide +kernel
theorem dL_law_1382 : decode cL_law 1382 = .ok (.iconst 1, 1) := by decide +kernel
theorem dL_law_1383 : decode cL_law 1383 = .ok (.iadd, 1) := by decide +kernel
theorem dL_law_1384 : decode cL_law 1384 = .ok (.iaload, 1) := by decide +kernel
theorem dL_law_1385 : decode cL_law 1385 = .ok (.aload_n 0, 1) := by decide +kernel
theorem dL_law_1386 : decode cL_law 1386 = .ok (.iload_n 3, 1) := by decide +kernel
theorem dL_law_1387 : decode cL_law 1387 = .ok (.iconst 2, 1) := by decide +kernel
theorem dL_law_1388 : decode cL_law 1388 = .ok (.iadd, 1) := by decide +kernel
theorem dL_law_1389 : decode cL_law 1389 = .ok (.iaload, 1) := by decide +kernel
theorem dL_law_1390 : decode cL_law 1390 = .ok (.aload_n 0, 1) := by decide +kernel
theorem dL_law_1391 : decode cL_law 1391 = .ok (.iload_n 3, 1) := by decide +kernel
theorem dL_law_1392 : decode cL_law 1392 = .ok (.iconst 3, 1) := by decide +kernel
theorem dL_law_1393 : decode cL_law 1393 = .ok (.iadd, 1) := by decide +kernel
theorem dL_law_1394 : decode cL_law 1394 = .ok (.iaload, 1) := by decide +kernel
theorem dL_law_1395 : decode cL_law 1395 = .ok (.invokevirtual 139, 3) := by decide +kernel
theorem dL_law_1398 : decode cL_law 1398 = .ok (.pop, 1) := by decide +kernel
theorem dL_law_1399 : decode cL_law 1399 = .ok (.aload_n 2, 1) := by decide +kernel
theorem dL_law_1400 : decode cL_law 1400 = .ok (.aload_n 0, 1) := by decide +kernel
theorem dL_law_1401 : decode cL_law 1401 = .ok (.iload_n 3, 1) := by decide +kernel
theorem dL_law_1402 : decode cL_law 1402 = .ok (.iconst 1, 1) := by decide +kernel
theorem dL_law_1403 : decode cL_law 1403 = .ok (.iadd, 1) := by decide +kernel
theorem dL_law_1404 : decode cL_law 1404 = .ok (.iaload, 1) := by decide +kernel
theorem dL_law_1405 : decode cL_law 1405 = .ok (.aload_n 0, 1) := by decide +kernel
theorem dL_law_1406 : decode cL_law 1406 = .ok (.iload_n 3, 1) := by decide +kernel
theorem dL_law_1407 : decode cL_law 1407 = .ok (.iconst 2, 1) := by decide +kernel
theorem dL_law_1408 : decode cL_law 1408 = .ok (.iadd, 1) := by decide +kernel
theorem dL_law_1409 : decode cL_law 1409 = .ok (.iaload, 1) := by decide +kernel
theorem dL_law_1410 : decode cL_law 1410 = .ok (.aload_n 0, 1) := by decide +kernel
theorem dL_law_1411 : decode cL_law 1411 = .ok (.iload_n 3, 1) := by decide +kernel
theorem dL_law_1412 : decode cL_law 1412 = .ok (.iconst 3, 1) := by decide +kernel
theorem dL_law_1413 : decode cL_law 1413 = .ok (.iadd, 1) := by decide +kernel
theorem dL_law_1414 : decode cL_law 1414 = .ok (.iaload, 1) := by decide +kernel
theorem dL_law_1415 : decode cL_law 1415 = .ok (.invokevirtual 142, 3) := by decide +kernel
theorem dL_law_1418 : decode cL_law 1418 = .ok (.pop, 1) := by decide +kernel
theorem dL_law_1419 : decode cL_law 1419 = .ok (.goto 26, 3) := by decide +kernel
theorem dL_law_1422 : decode cL_law 1422 = .ok (.aload_n 1, 1) := by decide +kernel
theorem dL_law_1423 : decode cL_law 1423 = .ok (.aload_n 0, 1) := by decide +kernel
theorem dL_law_1424 : decode cL_law 1424 = .ok (.iload_n 3, 1) := by decide +kernel
theorem dL_law_1425 : decode cL_law 1425 = .ok (.iconst 1, 1) := by decide +kernel
theorem dL_law_1426 : decode cL_law 1426 = .ok (.iadd, 1) := by decide +kernel
theorem dL_law_1427 : decode cL_law 1427 = .ok (.iaload, 1) := by decide +kernel
theorem dL_law_1428 : decode cL_law 1428 = .ok (.invokevirtual 143, 3) := by decide +kernel
theorem dL_law_1431 : decode cL_law 1431 = .ok (.pop, 1) := by decide +kernel
theorem dL_law_1432 : decode cL_law 1432 = .ok (.aload_n 2, 1) := by decide +kernel
theorem dL_law_1433 : decode cL_law 1433 = .ok (.aload_n 0, 1) := by decide +kernel
theorem dL_law_1434 : decode cL_law 1434 = .ok (.iload_n 3, 1) := by decide +kernel
theorem dL_law_1435 : decode cL_law 1435 = .ok (.iconst 1, 1) := by decide +kernel
theorem dL_law_1436 : decode cL_law 1436 = .ok (.iadd, 1) := by decide +kernel
theorem dL_law_1437 : decode cL_law 1437 = .ok (.iaload, 1) := by decide +kernel
theorem dL_law_1438 : decode cL_law 1438 = .ok (.invokevirtual 146, 3) := by decide +kernel
theorem dL_law_1441 : decode cL_law 1441 = .ok (.pop, 1) := by decide +kernel
theorem dL_law_1442 : decode cL_law 1442 = .ok (.goto 3, 3) := by decide +kernel
theorem dL_law_1445 : decode cL_law 1445 = .ok (.iinc 3 6, 3) := by decide +kernel
theorem dL_law_1448 : decode cL_law 1448 = .ok (.goto (-1430), 3) := by decide +kernel
theorem dL_law_1451 : decode cL_law 1451 = .ok (.iconst 1, 1) := by decide +kernel
theorem dL_law_1452 : decode cL_law 1452 = .ok (.ireturn, 1) := by decide +kernel
end
section
section
def gT : List Cond := lw_tbl.filter goodWord
def isNest : Cond → Bool
  | .fieldLinkNest _ _ _ _ _ _ => true
  | .methodLinkNest _ _ _ _ => true
  | _ => false
def nestOK (U : State) : Prop := ∀ w ∈ lw_tbl, isNest w = true → va_Nw w U
theorem nestOK.warm {s U : State} (hW : s.WarmedH U.vm) (h : nestOK s) : nestOK U := by
  intro w hw hn
  have h1 := h w hw hn
  unfold isNest at hn
  split at hn
  · exact va_Nw.warmF hW h1
  · exact va_Nw.warmM hW h1
  · cases hn
theorem nestOK.same {u U : State} (hvm : u.vm = U.vm) (h : nestOK u) : nestOK U := by
  intro w hw hn
  have h1 := h w hw hn
  unfold isNest at hn
  split at hn
  · exact va_Nw.same rfl hvm h1
  · exact va_Nw.same rfl hvm h1
  · cases hn
theorem gT_of {w : Cond} (i : Nat) (h : lw_tbl[i]? = some w) (hg : goodWord w = true) : w ∈ gT := List.mem_filter.mpr ⟨List.mem_of_getElem? h, hg⟩
theorem gT_in {w : Cond} (h : w ∈ gT) : w ∈ lw_tbl := (List.mem_filter.mp h).1
theorem gT_good {big : List Cond} (hb : ∀ w ∈ gT, w ∈ big) : GoodIn big gT := fun w h => ⟨hb w h, good_of_word (List.mem_filter.mp h).2⟩
abbrev Mem : Type := (Nat → Nat → Int32) × (Nat → Nat → Int64)
def ui (M : Mem) (k j : Nat) (x : Int32) : Mem := (fun a b => if a = k ∧ b = j then x else M.1 a b, M.2)
def ul (M : Mem) (k j : Nat) (x : Int64) : Mem := (M.1, fun a b => if a = k ∧ b = j then x else M.2 a b)
/-- a run of n places of cell k is copied from cell k0 -/
def uc (M : Mem) (k0 sp k dp n : Nat) : Mem := (fun a b => if a = k ∧ dp ≤ b ∧ b < dp + n then M.1 k0 (sp + (b - dp)) else M.1 a b, M.2)
theorem ui_1 (M : Mem) (k j : Nat) (x : Int32) (a b : Nat) : (ui M k j x).1 a b = if a = k ∧ b = j then x else M.1 a b := rfl
theorem ui_2 (M : Mem) (k j : Nat) (x : Int32) : (ui M k j x).2 = M.2 := rfl
theorem ul_1 (M : Mem) (k j : Nat) (x : Int64) : (ul M k j x).1 = M.1 := rfl
theorem ul_2 (M : Mem) (k j : Nat) (x : Int64) (a b : Nat) : (ul M k j x).2 a b = if a = k ∧ b = j then x else M.2 a b := rfl
theorem ui_eq {M : Mem} {k j : Nat} {x : Int32} : (ui M k j x).1 k j = x := by simp [ui]
theorem ui_nk {M : Mem} {k j : Nat} {x : Int32} {a b : Nat} (h : a ≠ k) : (ui M k j x).1 a b = M.1 a b := by simp [ui, h]
theorem ui_nj {M : Mem} {k j : Nat} {x : Int32} {a b : Nat} (h : b ≠ j) : (ui M k j x).1 a b = M.1 a b := by simp [ui, h]
theorem ul_eq {M : Mem} {k j : Nat} {x : Int64} : (ul M k j x).2 k j = x := by simp [ul]
theorem ul_nk {M : Mem} {k j : Nat} {x : Int64} {a b : Nat} (h : a ≠ k) : (ul M k j x).2 a b = M.2 a b := by simp [ul, h]
theorem ul_nj {M : Mem} {k j : Nat} {x : Int64} {a b : Nat} (h : b ≠ j) : (ul M k j x).2 a b = M.2 a b := by simp [ul, h]
def lay : List (Nat × Nat × List Nat) := [(3, 6, [3, 16, 25, 35, 39, 42, 48, 0]), (3, 5, [4, 5, 6, 0, 7, 8, 9, 10, 11, 12, 13, 1, 0, 14, 15, 0]), (0, 40, []), (0, 40, []), (0, 40, []), (0, 10, []), (0, 10, []), (0, 40, []), (0, 40, []), (0, 40, []), (0, 40, []), (1, 8, []), (0, 3, []), (0, 40, []), (3, 2, [17, 0, 18, 19, 0, 0, 20, 21, 22, 23, 24, 0, 0]), (0, 60, []), (0, 60, []), (0, 60, []), (0, 480, []), (0, 480, []), (0, 8, []), (0, 8, []), (0, 8, []), (3, 0, [26, 27, 0, 28, 29, 30, 31, 0, 32, 33, 34]), (0, 8, []), (0, 8, []), (0, 200, []), (0, 200, []), (0, 200, []), (2, 200, []), (0, 40, []), (1, 8, []), (0, 10, []), (3, 4, [3, 16, 36, 0, 37, 0, 38, 0, 0, 0, 0, 1, 1]), (0, 40, []), (0, 40, []), (0, 256, []), (3, 1, [3, 16, 40, 41, 1, 0, 0]), (0, 12350, []), (0, 192, []), (3, 3, [43, 44, 45, 46, 47, 0]), (0, 12, []), (0, 12, []), (0, 12, []), (0, 12, []), (0, 288, []), (0, 24, []), (3, 7, [50, 51, 52, 53, 54, 55, 56, 57, 58, 59, 60, 0, 0, 61, 0, 62, 63, 64, 65, 66, 0, 0, 0, 0, 0, 0, 67, 68, 69, 70, 71, 72, 0, 0, 1, 73, 74, 75, 76, 77, 78, 79, 80, 0, 0, 81, 82, 83, 84, 85, 86, 87, 0, 0, 88, 89, 90, 91, 92, 0]), (0, 40, []), (0, 40, []), (0, 40, []), (0, 10, []), (0, 10, []), (0, 40, []), (0, 40, []), (0, 40, []), (0, 40, []), (0, 40, []), (0, 3, []), (0, 40, []), (0, 60, []), (0, 480, []), (0, 8, []), (0, 8, []), (0, 60, []), (0, 9, []), (0, 9, []), (0, 500, []), (0, 500, []), (0, 40, []), (0, 40, []), (0, 5000, []), (0, 19375, []), (0, 19375, []), (0, 625, []), (0, 625, []), (0, 625, []), (0, 24, []), (0, 24, []), (0, 8, []), (0, 8, []), (0, 200, []), (0, 200, []), (0, 200, []), (2, 200, []), (2, 40, []), (0, 12, []), (0, 12, []), (0, 12, []), (0, 12, []), (0, 288, [])]
abbrev nC : Nat := 91
def fv (ad : Nat → Nat) (M : Mem) (k j : Nat) (f : Nat) : Value := match f with
  | 0 => .int (M.1 k j)
  | 1 => .long (M.2 k j)
  | r + 2 => .ref (ad r)
def cellOf (ad : Nat → Nat) (cI cJ cZ : ClassId) (M : Mem) (k : Nat) (y : Nat × Nat × List Nat) : va_E :=
  if y.1 = 0 then .inl (cI, y.2.1, .inl (M.1 k)) else if y.1 = 1 then .inl (cJ, y.2.1, .inr (.inl (M.2 k))) else if y.1 = 2 then .inl (cZ, y.2.1, .inl (M.1 k)) else .inr (y.2.1, y.2.2.mapIdx (fun j f => fv ad M k j f))
def cellE (ad : Nat → Nat) (cI cJ cZ : ClassId) (M : Mem) (k : Nat) : va_E := cellOf ad cI cJ cZ M k (lay.getD k (0, 0, []))
def wsl (ad : Nat → Nat) (cI cJ cZ : ClassId) (M : Mem) : va_W := (List.range nC).map (fun k => (ad k, cellE ad cI cJ cZ M k))
theorem lay_len : lay.length = nC := by decide +kernel
theorem lay_lt {k : Nat} {y : Nat × Nat × List Nat} (h : lay[k]? = some y) : k < nC := by
  rw [← lay_len]; exact (List.getElem?_eq_some_iff.mp h).1
theorem wsl_at {ad : Nat → Nat} {cI cJ cZ : ClassId} {M : Mem} {k : Nat} {y : Nat × Nat × List Nat} (h : lay[k]? = some y) : (wsl ad cI cJ cZ M)[k]? = some (ad k, cellOf ad cI cJ cZ M k y) := by
  have hk := lay_lt h
  simp [wsl, cellE, List.getD, h, hk]
theorem wsl_set {ad : Nat → Nat} {cI cJ cZ : ClassId} {M M' : Mem} {k : Nat} {y : Nat × Nat × List Nat} (h : lay[k]? = some y) (hne : ∀ j, j ≠ k → cellE ad cI cJ cZ M' j = cellE ad cI cJ cZ M j) : (wsl ad cI cJ cZ M).set k (ad k, cellOf ad cI cJ cZ M' k y) = wsl ad cI cJ cZ M' := by
  have hk := lay_lt h
  apply List.ext_getElem?
  intro i
  by_cases hi : i = k
  · subst hi
    rw [List.getElem?_set_self (by simp [wsl]; exact hk), wsl_at h]
  · rw [List.getElem?_set_ne (Ne.symm hi)]
    by_cases hn : i < nC
    · simp [wsl, hn, hne i hi]
    · simp [wsl, hn]
theorem fv_ne {ad : Nat → Nat} {M M' : Mem} {k : Nat} (h1 : M'.1 k = M.1 k) (h2 : M'.2 k = M.2 k) (j f : Nat) : fv ad M' k j f = fv ad M k j f := by
  unfold fv; split <;> simp [h1, h2]
theorem cellE_ne {ad : Nat → Nat} {cI cJ cZ : ClassId} {M M' : Mem} {k : Nat} (h1 : M'.1 k = M.1 k) (h2 : M'.2 k = M.2 k) : cellE ad cI cJ cZ M' k = cellE ad cI cJ cZ M k := by
  unfold cellE cellOf
  simp only [h1, h2, fv_ne h1 h2]
theorem ui_cell {M : Mem} {k j : Nat} {x : Int32} {a : Nat} (h : a ≠ k) : (ui M k j x).1 a = M.1 a := by funext b; simp [ui, h]
theorem ul_cell {M : Mem} {k j : Nat} {x : Int64} {a : Nat} (h : a ≠ k) : (ul M k j x).2 a = M.2 a := by funext b; simp [ul, h]
theorem uc_cell {M : Mem} {k0 sp k dp n : Nat} {a : Nat} (h : a ≠ k) : (uc M k0 sp k dp n).1 a = M.1 a := by funext b; simp [uc, h]
def AdOK (ad : Nat → Nat) : Prop := ∀ i j, i < nC → j < nC → ad i = ad j → i = j
def aA (ad : Nat → Nat) : Nat → Prop := fun q => ∃ k, k < nC ∧ q = ad k
theorem wsl_D {ad : Nat → Nat} {cI cJ cZ : ClassId} {M : Mem} (h : AdOK ad) : va_D (aA ad) (wsl ad cI cJ cZ M) := by
  refine ⟨fun i j p q hi hj hpq => ?_, fun k q hk => ?_⟩
  · have li : i < nC := by have := (List.getElem?_eq_some_iff.mp hi).1; simpa [wsl] using this
    have lj : j < nC := by have := (List.getElem?_eq_some_iff.mp hj).1; simpa [wsl] using this
    simp [wsl, li] at hi
    simp [wsl, lj] at hj
    rw [← hi, ← hj] at hpq
    exact h i j li lj hpq
  · have lk : k < nC := by have := (List.getElem?_eq_some_iff.mp hk).1; simpa [wsl] using this
    simp [wsl, lk] at hk
    rw [← hk]
    exact ⟨k, lk, rfl⟩
abbrev tyl (cI cJ cZ : ClassId) : List (ClassId × FieldType) := [(cI, .int), (cJ, .long), (cZ, .boolean)]
def Wd (ad : Nat → Nat) (D : va_G) (cI cJ cZ : ClassId) (M : Mem) (U : State) : Prop := va_P D vwCl (wsl ad cI cJ cZ M) U.heap ∧ va_K D vwCl (tyl cI cJ cZ) U ∧ nestOK U ∧ AdOK ad
abbrev Post : Type := Option Value → Mem → Prop
def Qg (ad : Nat → Nat) (D : va_G) (cI cJ cZ : ClassId) (post : Post) : Array Value → State → Outcome → State → Prop := fun _ st oc t => (∃ (v : Option Value) (M' : Mem), oc = .returned v ∧ post v M' ∧ va_P D vwCl (wsl ad cI cJ cZ M') t.heap) ∧ va_F (aA ad) st t
abbrev rmd (d : Nat) : Room := { frames := d, cells := 0, slots := 0, locals := 38 * d }
/-- a method's contract: at these arguments and this memory it returns, with post -/
def Ctr (ad : Nat → Nat) (y : MethodName) (cc : ByteArray) (nL : Nat) (ret : Option FieldType) (d : Nat) (as : List Value) (M : Mem) (post : Post) : Prop :=
  ∀ (l : Launch) (D : va_G) (cI cJ cZ : ClassId), Met l y (.code y cc nL ret :: gT) (rmd d) (va_Pc as (Wd ad D cI cJ cZ M)) (Qg ad D cI cJ cZ post) 0 0 (aA ad)
abbrev GC : Type := Program × Launch × Env × State × MethodId × Array Value × List Frame × Method × Code × va_G × ClassId × ClassId × ClassId × (Nat → Nat) × Nat × Nat × Post
def G (Γ : GC) (M : Mem) (pc : Nat) (L : List (Nat × Value)) (S : List Value) : Prop := match Γ with
  | (p, l, e, s, m, args, below, meth, c, D, cI, cJ, cZ, ad, d, nL, post) => ∀ (H : Heap) (locs : List Loc) (ls : Array Slot), va_P D vwCl (wsl ad cI cJ cZ M) H → va_S (aA ad) s.heap H locs → lv_has ls nL L →
    W p l e (rmd d) s m args below meth c H locs 0 0 (MQ below (Qg ad D cI cJ cZ post) args s 0 0 (aA ad)) (F0 m pc ls S)
def gX (Γ : GC) (cc : ByteArray) (own : String) (nL : Nat) (ret : Option FieldType) (d : Nat) (ad : Nat → Nat) (post : Post) : Prop := match Γ with
  | (p, l, e, s, m, args, below, meth, c, D, cI, cJ, cZ, ad', d', nL', post') => ad' = ad ∧ d' = d ∧ nL' = nL ∧ post' = post ∧ p.tables.exec = Jvm.exec ∧ c.code = cc ∧ c.maxLocals = nL ∧ meth.sig.returnType = ret ∧ meth.locks = false ∧ s.vm.findClass own = some m.cls ∧ (∀ w ∈ gT, w.before args s = true) ∧ va_K D vwCl (tyl cI cJ cZ) s ∧ nestOK s ∧ AdOK ad
theorem ctr_of {ad : Nat → Nat} {y : MethodName} {cc : ByteArray} {nL : Nat} {ret : Option FieldType} {d : Nat} {as : List Value} {M : Mem} {post : Post} {L : List (Nat × Value)} (hy : plainName y.cls = true) (hn : (lg_sl as).length ≤ nL) (hL : lv_args 0 as = L)
    (body : ∀ Γ : GC, gX Γ cc y.cls nL ret d ad post → G Γ M 0 L []) : Ctr ad y cc nL ret d as M post := by
  intro l D cI cJ cZ
  refine Met.ofW (cc := cc) (maxL := nL) (ret := ret) hy rfl ?_
  intro p e s m args below meth c s₁ B hml hv
  obtain ⟨rfl, hP, hK, hN, hAd⟩ := hv
  have hts := atoms_spec (ws := .code y cc nL ret :: gT) B.pre
  have hown : s.vm.findClass y.cls = some m.cls := findClass_of_methodNamed B.named
  have X : gX (p, l, e, s, m, as.toArray, below, meth, c, D, cI, cJ, cZ, ad, d, nL, post) cc y.cls nL ret d ad post :=
    ⟨rfl, rfl, rfl, rfl, B.exec, B.bytes, hml, B.returns, B.notSynchronized, hown, fun w hw => hts w (List.mem_cons_of_mem _ hw), hK, hN, hAd⟩
  have hl := lv_entry as (n := nL) hn
  rw [lg_entry_eq]
  rw [hL] at hl
  exact body _ X s.heap [] _ hP va_S.rf hl
theorem Ctr.weak {ad : Nat → Nat} {y : MethodName} {cc : ByteArray} {nL : Nat} {ret : Option FieldType} {d : Nat} {as : List Value} {M : Mem} {post post' : Post} (h : Ctr ad y cc nL ret d as M post) (hp : ∀ v M', post v M' → post' v M') : Ctr ad y cc nL ret d as M post' := by
  intro l D cI cJ cZ p e a1 a2 a3 s m args below a4 a5 a6 a7
  obtain ⟨t, o, b1, b2, b3, ⟨⟨⟨v, M', e1, e2, e3⟩, hF⟩, b5⟩⟩ := h l D cI cJ cZ p e a1 a2 a3 s m args below a4 a5 a6 a7
  exact ⟨t, o, b1, b2, b3, ⟨⟨⟨v, M', e1, hp v M' e2, e3⟩, hF⟩, b5⟩⟩
variable {Γ : GC} {cc : ByteArray} {own : String} {nL : Nat} {ret : Option FieldType} {d : Nat} {ad : Nat → Nat} {post : Post} {M : Mem} {pc : Nat} {L : List (Nat × Value)} {S : List Value}
/-- other locals: by their places -/
theorem g_sub {L' : List (Nat × Value)} (ks : List Nat) (hl : lv_pick L ks = L') (k : G Γ M pc L' S) : G Γ M pc L S := by
  obtain ⟨p, l, e, s, m, args, below, meth, c, D, cI, cJ, cZ, ad', d', nL', post'⟩ := Γ
  intro H locs ls hP hS h
  exact k H locs ls hP hS (lv_sub h ks hl)
theorem g_iconst (X : gX Γ cc own nL ret d ad post) {n : Int} (v : Int32) (hd : decode cc pc = .ok (.iconst n, 1)) (hv : Int32.ofInt n = v) (k : G Γ M (pc + 1) L (.int v :: S)) : G Γ M pc L S := by
  obtain ⟨p, l, e, s, m, args, below, meth, c, D, cI, cJ, cZ, ad', d', nL', post'⟩ := Γ
  obtain ⟨rfl, rfl, rfl, rfl, hx, hb, hml, hr, hlk, hown, hts, hK, hN, hAd⟩ := X
  intro H locs ls hP hS hl
  exact lv_iconst hx hb hd hv (k H locs ls hP hS hl)
theorem g_bipush (X : gX Γ cc own nL ret d ad post) {n : Int} (v : Int32) (hd : decode cc pc = .ok (.bipush n, 2)) (hv : (Int8.ofInt n).toInt32 = v) (k : G Γ M (pc + 2) L (.int v :: S)) : G Γ M pc L S := by
  obtain ⟨p, l, e, s, m, args, below, meth, c, D, cI, cJ, cZ, ad', d', nL', post'⟩ := Γ
  obtain ⟨rfl, rfl, rfl, rfl, hx, hb, hml, hr, hlk, hown, hts, hK, hN, hAd⟩ := X
  intro H locs ls hP hS hl
  exact lv_bipush hx hb hd hv (k H locs ls hP hS hl)
theorem g_sipush (X : gX Γ cc own nL ret d ad post) {n : Int} (v : Int32) (hd : decode cc pc = .ok (.sipush n, 3)) (hv : (Int16.ofInt n).toInt32 = v) (k : G Γ M (pc + 3) L (.int v :: S)) : G Γ M pc L S := by
  obtain ⟨p, l, e, s, m, args, below, meth, c, D, cI, cJ, cZ, ad', d', nL', post'⟩ := Γ
  obtain ⟨rfl, rfl, rfl, rfl, hx, hb, hml, hr, hlk, hown, hts, hK, hN, hAd⟩ := X
  intro H locs ls hP hS hl
  exact lv_sipush hx hb hd hv (k H locs ls hP hS hl)
theorem g_lconst (X : gX Γ cc own nL ret d ad post) {n : Fin 2} (v : Int64) (hd : decode cc pc = .ok (.lconst n, 1)) (hv : Int64.ofNat (n : Nat) = v) (k : G Γ M (pc + 1) L (.long v :: S)) : G Γ M pc L S := by
  obtain ⟨p, l, e, s, m, args, below, meth, c, D, cI, cJ, cZ, ad', d', nL', post'⟩ := Γ
  obtain ⟨rfl, rfl, rfl, rfl, hx, hb, hml, hr, hlk, hown, hts, hK, hN, hAd⟩ := X
  intro H locs ls hP hS hl
  exact lv_lconst hx hb hd hv (k H locs ls hP hS hl)
theorem g_ldc (X : gX Γ cc own nL ret d ad post) {i : Nat} {v : Int32} (hc : Cond.constant own i v ∈ gT) (hd : decode cc pc = .ok (.ldc i, 2)) (k : G Γ M (pc + 2) L (.int v :: S)) : G Γ M pc L S := by
  obtain ⟨p, l, e, s, m, args, below, meth, c, D, cI, cJ, cZ, ad', d', nL', post'⟩ := Γ
  obtain ⟨rfl, rfl, rfl, rfl, hx, hb, hml, hr, hlk, hown, hts, hK, hN, hAd⟩ := X
  intro H locs ls hP hS hl
  exact lv_ldc hx hb hown (hts _ hc) hd (k H locs ls hP hS hl)
theorem g_ldcw (X : gX Γ cc own nL ret d ad post) {i : Nat} {v : Int32} (hc : Cond.constant own i v ∈ gT) (hd : decode cc pc = .ok (.ldc_w i, 3)) (k : G Γ M (pc + 3) L (.int v :: S)) : G Γ M pc L S := by
  obtain ⟨p, l, e, s, m, args, below, meth, c, D, cI, cJ, cZ, ad', d', nL', post'⟩ := Γ
  obtain ⟨rfl, rfl, rfl, rfl, hx, hb, hml, hr, hlk, hown, hts, hK, hN, hAd⟩ := X
  intro H locs ls hP hS hl
  exact lv_ldcw hx hb hown (hts _ hc) hd (k H locs ls hP hS hl)
theorem g_ldc2 (X : gX Γ cc own nL ret d ad post) {i : Nat} {v : Int64} (hc : Cond.constantLong own i v ∈ gT) (hd : decode cc pc = .ok (.ldc2_w i, 3)) (k : G Γ M (pc + 3) L (.long v :: S)) : G Γ M pc L S := by
  obtain ⟨p, l, e, s, m, args, below, meth, c, D, cI, cJ, cZ, ad', d', nL', post'⟩ := Γ
  obtain ⟨rfl, rfl, rfl, rfl, hx, hb, hml, hr, hlk, hown, hts, hK, hN, hAd⟩ := X
  intro H locs ls hP hS hl
  exact lv_ldc2 hx hb hown (hts _ hc) hd (k H locs ls hP hS hl)
theorem g_iload (X : gX Γ cc own nL ret d ad post) (q : Nat) {i : Nat} {x : Int32} (hq : L[q]? = some (i, .int x)) (hd : decode cc pc = .ok (.iload i, 2)) (k : G Γ M (pc + 2) L (.int x :: S)) : G Γ M pc L S := by
  obtain ⟨p, l, e, s, m, args, below, meth, c, D, cI, cJ, cZ, ad', d', nL', post'⟩ := Γ
  obtain ⟨rfl, rfl, rfl, rfl, hx, hb, hml, hr, hlk, hown, hts, hK, hN, hAd⟩ := X
  intro H locs ls hP hS hl
  exact lv_iload hx hb hd (lv_at hl q hq) (k H locs ls hP hS hl)
theorem g_iload_n (X : gX Γ cc own nL ret d ad post) (q : Nat) {j : Fin 4} {x : Int32} (hq : L[q]? = some ((j : Nat), .int x)) (hd : decode cc pc = .ok (.iload_n j, 1)) (k : G Γ M (pc + 1) L (.int x :: S)) : G Γ M pc L S := by
  obtain ⟨p, l, e, s, m, args, below, meth, c, D, cI, cJ, cZ, ad', d', nL', post'⟩ := Γ
  obtain ⟨rfl, rfl, rfl, rfl, hx, hb, hml, hr, hlk, hown, hts, hK, hN, hAd⟩ := X
  intro H locs ls hP hS hl
  exact lv_iload_n hx hb hd rfl (lv_at hl q hq) (k H locs ls hP hS hl)
theorem g_lload (X : gX Γ cc own nL ret d ad post) (q : Nat) {i : Nat} {x : Int64} (hq : L[q]? = some (i, .long x)) (hd : decode cc pc = .ok (.lload i, 2)) (k : G Γ M (pc + 2) L (.long x :: S)) : G Γ M pc L S := by
  obtain ⟨p, l, e, s, m, args, below, meth, c, D, cI, cJ, cZ, ad', d', nL', post'⟩ := Γ
  obtain ⟨rfl, rfl, rfl, rfl, hx, hb, hml, hr, hlk, hown, hts, hK, hN, hAd⟩ := X
  intro H locs ls hP hS hl
  exact lv_lload hx hb hd (lv_at hl q hq) (k H locs ls hP hS hl)
theorem g_lload_n (X : gX Γ cc own nL ret d ad post) (q : Nat) {j : Fin 4} {x : Int64} (hq : L[q]? = some ((j : Nat), .long x)) (hd : decode cc pc = .ok (.lload_n j, 1)) (k : G Γ M (pc + 1) L (.long x :: S)) : G Γ M pc L S := by
  obtain ⟨p, l, e, s, m, args, below, meth, c, D, cI, cJ, cZ, ad', d', nL', post'⟩ := Γ
  obtain ⟨rfl, rfl, rfl, rfl, hx, hb, hml, hr, hlk, hown, hts, hK, hN, hAd⟩ := X
  intro H locs ls hP hS hl
  exact lv_lload_n hx hb hd rfl (lv_at hl q hq) (k H locs ls hP hS hl)
theorem g_aload (X : gX Γ cc own nL ret d ad post) (q : Nat) {i : Nat} {x : Nat} (hq : L[q]? = some (i, .ref x)) (hd : decode cc pc = .ok (.aload i, 2)) (k : G Γ M (pc + 2) L (.ref x :: S)) : G Γ M pc L S := by
  obtain ⟨p, l, e, s, m, args, below, meth, c, D, cI, cJ, cZ, ad', d', nL', post'⟩ := Γ
  obtain ⟨rfl, rfl, rfl, rfl, hx, hb, hml, hr, hlk, hown, hts, hK, hN, hAd⟩ := X
  intro H locs ls hP hS hl
  exact lv_aload hx hb hd (lv_at hl q hq) (k H locs ls hP hS hl)
theorem g_aload_n (X : gX Γ cc own nL ret d ad post) (q : Nat) {j : Fin 4} {x : Nat} (hq : L[q]? = some ((j : Nat), .ref x)) (hd : decode cc pc = .ok (.aload_n j, 1)) (k : G Γ M (pc + 1) L (.ref x :: S)) : G Γ M pc L S := by
  obtain ⟨p, l, e, s, m, args, below, meth, c, D, cI, cJ, cZ, ad', d', nL', post'⟩ := Γ
  obtain ⟨rfl, rfl, rfl, rfl, hx, hb, hml, hr, hlk, hown, hts, hK, hN, hAd⟩ := X
  intro H locs ls hP hS hl
  exact lv_aload_n hx hb hd rfl (lv_at hl q hq) (k H locs ls hP hS hl)
theorem g_istore (X : gX Γ cc own nL ret d ad post) {i : Nat} {x : Int32} (L' : List (Nat × Value)) (hd : decode cc pc = .ok (.istore i, 2)) (hn : i < nL) (hL : (i, Value.int x) :: L.filter (fun q => !(q.1 == i) && !(q.1 + 1 == i && q.2.category == 2)) = L') (k : G Γ M (pc + 2) L' S) : G Γ M pc L (.int x :: S) := by
  obtain ⟨p, l, e, s, m, args, below, meth, c, D, cI, cJ, cZ, ad', d', nL', post'⟩ := Γ
  obtain ⟨rfl, rfl, rfl, rfl, hx, hb, hml, hr, hlk, hown, hts, hK, hN, hAd⟩ := X
  intro H locs ls hP hS hl
  exact lv_istore hx hb hd hl hn hL (fun ls' hl' => k H locs ls' hP hS hl')
theorem g_istore_n (X : gX Γ cc own nL ret d ad post) {i : Nat} {j : Fin 4} {x : Int32} (L' : List (Nat × Value)) (hd : decode cc pc = .ok (.istore_n j, 1)) (hi : (j : Nat) = i) (hn : i < nL) (hL : (i, Value.int x) :: L.filter (fun q => !(q.1 == i) && !(q.1 + 1 == i && q.2.category == 2)) = L') (k : G Γ M (pc + 1) L' S) : G Γ M pc L (.int x :: S) := by
  obtain ⟨p, l, e, s, m, args, below, meth, c, D, cI, cJ, cZ, ad', d', nL', post'⟩ := Γ
  obtain ⟨rfl, rfl, rfl, rfl, hx, hb, hml, hr, hlk, hown, hts, hK, hN, hAd⟩ := X
  intro H locs ls hP hS hl
  exact lv_istore_n hx hb hd hi hl hn hL (fun ls' hl' => k H locs ls' hP hS hl')
theorem g_lstore (X : gX Γ cc own nL ret d ad post) {i : Nat} {x : Int64} (L' : List (Nat × Value)) (hd : decode cc pc = .ok (.lstore i, 2)) (hn : i + 1 < nL) (hL : (i, Value.long x) :: L.filter (fun q => !(q.1 == i) && (!(q.1 == i + 1) && !(q.1 + 1 == i && q.2.category == 2))) = L') (k : G Γ M (pc + 2) L' S) : G Γ M pc L (.long x :: S) := by
  obtain ⟨p, l, e, s, m, args, below, meth, c, D, cI, cJ, cZ, ad', d', nL', post'⟩ := Γ
  obtain ⟨rfl, rfl, rfl, rfl, hx, hb, hml, hr, hlk, hown, hts, hK, hN, hAd⟩ := X
  intro H locs ls hP hS hl
  exact lv_lstore hx hb hd hl hn hL (fun ls' hl' => k H locs ls' hP hS hl')
theorem g_lstore_n (X : gX Γ cc own nL ret d ad post) {i : Nat} {j : Fin 4} {x : Int64} (L' : List (Nat × Value)) (hd : decode cc pc = .ok (.lstore_n j, 1)) (hi : (j : Nat) = i) (hn : i + 1 < nL) (hL : (i, Value.long x) :: L.filter (fun q => !(q.1 == i) && (!(q.1 == i + 1) && !(q.1 + 1 == i && q.2.category == 2))) = L') (k : G Γ M (pc + 1) L' S) : G Γ M pc L (.long x :: S) := by
  obtain ⟨p, l, e, s, m, args, below, meth, c, D, cI, cJ, cZ, ad', d', nL', post'⟩ := Γ
  obtain ⟨rfl, rfl, rfl, rfl, hx, hb, hml, hr, hlk, hown, hts, hK, hN, hAd⟩ := X
  intro H locs ls hP hS hl
  exact lv_lstore_n hx hb hd hi hl hn hL (fun ls' hl' => k H locs ls' hP hS hl')
theorem g_astore (X : gX Γ cc own nL ret d ad post) {i : Nat} {x : Nat} (L' : List (Nat × Value)) (hd : decode cc pc = .ok (.astore i, 2)) (hn : i < nL) (hL : (i, Value.ref x) :: L.filter (fun q => !(q.1 == i) && !(q.1 + 1 == i && q.2.category == 2)) = L') (k : G Γ M (pc + 2) L' S) : G Γ M pc L (.ref x :: S) := by
  obtain ⟨p, l, e, s, m, args, below, meth, c, D, cI, cJ, cZ, ad', d', nL', post'⟩ := Γ
  obtain ⟨rfl, rfl, rfl, rfl, hx, hb, hml, hr, hlk, hown, hts, hK, hN, hAd⟩ := X
  intro H locs ls hP hS hl
  exact lv_astore hx hb hd hl hn hL (fun ls' hl' => k H locs ls' hP hS hl')
theorem g_astore_n (X : gX Γ cc own nL ret d ad post) {i : Nat} {j : Fin 4} {x : Nat} (L' : List (Nat × Value)) (hd : decode cc pc = .ok (.astore_n j, 1)) (hi : (j : Nat) = i) (hn : i < nL) (hL : (i, Value.ref x) :: L.filter (fun q => !(q.1 == i) && !(q.1 + 1 == i && q.2.category == 2)) = L') (k : G Γ M (pc + 1) L' S) : G Γ M pc L (.ref x :: S) := by
  obtain ⟨p, l, e, s, m, args, below, meth, c, D, cI, cJ, cZ, ad', d', nL', post'⟩ := Γ
  obtain ⟨rfl, rfl, rfl, rfl, hx, hb, hml, hr, hlk, hown, hts, hK, hN, hAd⟩ := X
  intro H locs ls hP hS hl
  exact lv_astore_n hx hb hd hi hl hn hL (fun ls' hl' => k H locs ls' hP hS hl')
theorem g_iinc (X : gX Γ cc own nL ret d ad post) (q : Nat) {i : Nat} {n : Int} {x : Int32} (L' : Int32 → List (Nat × Value)) (hd : decode cc pc = .ok (.iinc i n, 3)) (hq : L[q]? = some (i, .int x)) (hn : i < nL) (hL : ∀ v, (i, Value.int v) :: L.filter (fun q => !(q.1 == i) && !(q.1 + 1 == i && q.2.category == 2)) = L' v) (k : ∀ v : Int32, v = x + Int32.ofInt n → G Γ M (pc + 3) (L' v) S) : G Γ M pc L S := by
  obtain ⟨p, l, e, s, m, args, below, meth, c, D, cI, cJ, cZ, ad', d', nL', post'⟩ := Γ
  obtain ⟨rfl, rfl, rfl, rfl, hx, hb, hml, hr, hlk, hown, hts, hK, hN, hAd⟩ := X
  intro H locs ls hP hS hl
  exact lv_iinc (k := q) hx hb hd hl hq rfl hn (hL _) (fun ls' hl' => k _ rfl H locs ls' hP hS hl')
theorem g_iadd (X : gX Γ cc own nL ret d ad post) {x y : Int32} (hd : decode cc pc = .ok (.iadd, 1)) (k : ∀ z : Int32, z = x + y → G Γ M (pc + 1) L (.int z :: S)) : G Γ M pc L (.int y :: .int x :: S) := by
  obtain ⟨p, l, e, s, m, args, below, meth, c, D, cI, cJ, cZ, ad', d', nL', post'⟩ := Γ
  obtain ⟨rfl, rfl, rfl, rfl, hx, hb, hml, hr, hlk, hown, hts, hK, hN, hAd⟩ := X
  intro H locs ls hP hS hl
  exact lv_iadd hx hb hd (k _ rfl H locs ls hP hS hl)
theorem g_isub (X : gX Γ cc own nL ret d ad post) {x y : Int32} (hd : decode cc pc = .ok (.isub, 1)) (k : ∀ z : Int32, z = x - y → G Γ M (pc + 1) L (.int z :: S)) : G Γ M pc L (.int y :: .int x :: S) := by
  obtain ⟨p, l, e, s, m, args, below, meth, c, D, cI, cJ, cZ, ad', d', nL', post'⟩ := Γ
  obtain ⟨rfl, rfl, rfl, rfl, hx, hb, hml, hr, hlk, hown, hts, hK, hN, hAd⟩ := X
  intro H locs ls hP hS hl
  exact lv_isub hx hb hd (k _ rfl H locs ls hP hS hl)
theorem g_imul (X : gX Γ cc own nL ret d ad post) {x y : Int32} (hd : decode cc pc = .ok (.imul, 1)) (k : ∀ z : Int32, z = x * y → G Γ M (pc + 1) L (.int z :: S)) : G Γ M pc L (.int y :: .int x :: S) := by
  obtain ⟨p, l, e, s, m, args, below, meth, c, D, cI, cJ, cZ, ad', d', nL', post'⟩ := Γ
  obtain ⟨rfl, rfl, rfl, rfl, hx, hb, hml, hr, hlk, hown, hts, hK, hN, hAd⟩ := X
  intro H locs ls hP hS hl
  exact lv_imul hx hb hd (k _ rfl H locs ls hP hS hl)
theorem g_iand (X : gX Γ cc own nL ret d ad post) {x y : Int32} (hd : decode cc pc = .ok (.iand, 1)) (k : ∀ z : Int32, z = x &&& y → G Γ M (pc + 1) L (.int z :: S)) : G Γ M pc L (.int y :: .int x :: S) := by
  obtain ⟨p, l, e, s, m, args, below, meth, c, D, cI, cJ, cZ, ad', d', nL', post'⟩ := Γ
  obtain ⟨rfl, rfl, rfl, rfl, hx, hb, hml, hr, hlk, hown, hts, hK, hN, hAd⟩ := X
  intro H locs ls hP hS hl
  exact lv_iand hx hb hd (k _ rfl H locs ls hP hS hl)
theorem g_ior (X : gX Γ cc own nL ret d ad post) {x y : Int32} (hd : decode cc pc = .ok (.ior, 1)) (k : ∀ z : Int32, z = x ||| y → G Γ M (pc + 1) L (.int z :: S)) : G Γ M pc L (.int y :: .int x :: S) := by
  obtain ⟨p, l, e, s, m, args, below, meth, c, D, cI, cJ, cZ, ad', d', nL', post'⟩ := Γ
  obtain ⟨rfl, rfl, rfl, rfl, hx, hb, hml, hr, hlk, hown, hts, hK, hN, hAd⟩ := X
  intro H locs ls hP hS hl
  exact lv_ior hx hb hd (k _ rfl H locs ls hP hS hl)
theorem g_ixor (X : gX Γ cc own nL ret d ad post) {x y : Int32} (hd : decode cc pc = .ok (.ixor, 1)) (k : ∀ z : Int32, z = x ^^^ y → G Γ M (pc + 1) L (.int z :: S)) : G Γ M pc L (.int y :: .int x :: S) := by
  obtain ⟨p, l, e, s, m, args, below, meth, c, D, cI, cJ, cZ, ad', d', nL', post'⟩ := Γ
  obtain ⟨rfl, rfl, rfl, rfl, hx, hb, hml, hr, hlk, hown, hts, hK, hN, hAd⟩ := X
  intro H locs ls hP hS hl
  exact lv_ixor hx hb hd (k _ rfl H locs ls hP hS hl)
theorem g_ishl (X : gX Γ cc own nL ret d ad post) {x y : Int32} (hd : decode cc pc = .ok (.ishl, 1)) (k : ∀ z : Int32, z = x <<< (y &&& 31) → G Γ M (pc + 1) L (.int z :: S)) : G Γ M pc L (.int y :: .int x :: S) := by
  obtain ⟨p, l, e, s, m, args, below, meth, c, D, cI, cJ, cZ, ad', d', nL', post'⟩ := Γ
  obtain ⟨rfl, rfl, rfl, rfl, hx, hb, hml, hr, hlk, hown, hts, hK, hN, hAd⟩ := X
  intro H locs ls hP hS hl
  exact lv_ishl hx hb hd (k _ rfl H locs ls hP hS hl)
theorem g_ishr (X : gX Γ cc own nL ret d ad post) {x y : Int32} (hd : decode cc pc = .ok (.ishr, 1)) (k : ∀ z : Int32, z = x >>> (y &&& 31) → G Γ M (pc + 1) L (.int z :: S)) : G Γ M pc L (.int y :: .int x :: S) := by
  obtain ⟨p, l, e, s, m, args, below, meth, c, D, cI, cJ, cZ, ad', d', nL', post'⟩ := Γ
  obtain ⟨rfl, rfl, rfl, rfl, hx, hb, hml, hr, hlk, hown, hts, hK, hN, hAd⟩ := X
  intro H locs ls hP hS hl
  exact lv_ishr hx hb hd (k _ rfl H locs ls hP hS hl)
theorem g_idiv (X : gX Γ cc own nL ret d ad post) {x y : Int32} (hd : decode cc pc = .ok (.idiv, 1)) (hne : ¬ y = 0) (k : ∀ z : Int32, z = x / y → G Γ M (pc + 1) L (.int z :: S)) : G Γ M pc L (.int y :: .int x :: S) := by
  obtain ⟨p, l, e, s, m, args, below, meth, c, D, cI, cJ, cZ, ad', d', nL', post'⟩ := Γ
  obtain ⟨rfl, rfl, rfl, rfl, hx, hb, hml, hr, hlk, hown, hts, hK, hN, hAd⟩ := X
  intro H locs ls hP hS hl
  exact lv_idiv hx hb hd hne (k _ rfl H locs ls hP hS hl)
theorem g_irem (X : gX Γ cc own nL ret d ad post) {x y : Int32} (hd : decode cc pc = .ok (.irem, 1)) (hne : ¬ y = 0) (k : ∀ z : Int32, z = x - x / y * y → G Γ M (pc + 1) L (.int z :: S)) : G Γ M pc L (.int y :: .int x :: S) := by
  obtain ⟨p, l, e, s, m, args, below, meth, c, D, cI, cJ, cZ, ad', d', nL', post'⟩ := Γ
  obtain ⟨rfl, rfl, rfl, rfl, hx, hb, hml, hr, hlk, hown, hts, hK, hN, hAd⟩ := X
  intro H locs ls hP hS hl
  exact lv_irem hx hb hd hne (k _ rfl H locs ls hP hS hl)
theorem g_ladd (X : gX Γ cc own nL ret d ad post) {x y : Int64} (hd : decode cc pc = .ok (.ladd, 1)) (k : ∀ z : Int64, z = x + y → G Γ M (pc + 1) L (.long z :: S)) : G Γ M pc L (.long y :: .long x :: S) := by
  obtain ⟨p, l, e, s, m, args, below, meth, c, D, cI, cJ, cZ, ad', d', nL', post'⟩ := Γ
  obtain ⟨rfl, rfl, rfl, rfl, hx, hb, hml, hr, hlk, hown, hts, hK, hN, hAd⟩ := X
  intro H locs ls hP hS hl
  exact lv_ladd hx hb hd (k _ rfl H locs ls hP hS hl)
theorem g_lsub (X : gX Γ cc own nL ret d ad post) {x y : Int64} (hd : decode cc pc = .ok (.lsub, 1)) (k : ∀ z : Int64, z = x - y → G Γ M (pc + 1) L (.long z :: S)) : G Γ M pc L (.long y :: .long x :: S) := by
  obtain ⟨p, l, e, s, m, args, below, meth, c, D, cI, cJ, cZ, ad', d', nL', post'⟩ := Γ
  obtain ⟨rfl, rfl, rfl, rfl, hx, hb, hml, hr, hlk, hown, hts, hK, hN, hAd⟩ := X
  intro H locs ls hP hS hl
  exact lv_lsub hx hb hd (k _ rfl H locs ls hP hS hl)
theorem g_lmul (X : gX Γ cc own nL ret d ad post) {x y : Int64} (hd : decode cc pc = .ok (.lmul, 1)) (k : ∀ z : Int64, z = x * y → G Γ M (pc + 1) L (.long z :: S)) : G Γ M pc L (.long y :: .long x :: S) := by
  obtain ⟨p, l, e, s, m, args, below, meth, c, D, cI, cJ, cZ, ad', d', nL', post'⟩ := Γ
  obtain ⟨rfl, rfl, rfl, rfl, hx, hb, hml, hr, hlk, hown, hts, hK, hN, hAd⟩ := X
  intro H locs ls hP hS hl
  exact lv_lmul hx hb hd (k _ rfl H locs ls hP hS hl)
theorem g_land (X : gX Γ cc own nL ret d ad post) {x y : Int64} (hd : decode cc pc = .ok (.land, 1)) (k : ∀ z : Int64, z = x &&& y → G Γ M (pc + 1) L (.long z :: S)) : G Γ M pc L (.long y :: .long x :: S) := by
  obtain ⟨p, l, e, s, m, args, below, meth, c, D, cI, cJ, cZ, ad', d', nL', post'⟩ := Γ
  obtain ⟨rfl, rfl, rfl, rfl, hx, hb, hml, hr, hlk, hown, hts, hK, hN, hAd⟩ := X
  intro H locs ls hP hS hl
  exact lv_land hx hb hd (k _ rfl H locs ls hP hS hl)
theorem g_lor (X : gX Γ cc own nL ret d ad post) {x y : Int64} (hd : decode cc pc = .ok (.lor, 1)) (k : ∀ z : Int64, z = x ||| y → G Γ M (pc + 1) L (.long z :: S)) : G Γ M pc L (.long y :: .long x :: S) := by
  obtain ⟨p, l, e, s, m, args, below, meth, c, D, cI, cJ, cZ, ad', d', nL', post'⟩ := Γ
  obtain ⟨rfl, rfl, rfl, rfl, hx, hb, hml, hr, hlk, hown, hts, hK, hN, hAd⟩ := X
  intro H locs ls hP hS hl
  exact lv_lor hx hb hd (k _ rfl H locs ls hP hS hl)
theorem g_lxor (X : gX Γ cc own nL ret d ad post) {x y : Int64} (hd : decode cc pc = .ok (.lxor, 1)) (k : ∀ z : Int64, z = x ^^^ y → G Γ M (pc + 1) L (.long z :: S)) : G Γ M pc L (.long y :: .long x :: S) := by
  obtain ⟨p, l, e, s, m, args, below, meth, c, D, cI, cJ, cZ, ad', d', nL', post'⟩ := Γ
  obtain ⟨rfl, rfl, rfl, rfl, hx, hb, hml, hr, hlk, hown, hts, hK, hN, hAd⟩ := X
  intro H locs ls hP hS hl
  exact lv_lxor hx hb hd (k _ rfl H locs ls hP hS hl)
theorem g_ldiv (X : gX Γ cc own nL ret d ad post) {x y : Int64} (hd : decode cc pc = .ok (.ldiv, 1)) (hne : ¬ y = 0) (k : ∀ z : Int64, z = x / y → G Γ M (pc + 1) L (.long z :: S)) : G Γ M pc L (.long y :: .long x :: S) := by
  obtain ⟨p, l, e, s, m, args, below, meth, c, D, cI, cJ, cZ, ad', d', nL', post'⟩ := Γ
  obtain ⟨rfl, rfl, rfl, rfl, hx, hb, hml, hr, hlk, hown, hts, hK, hN, hAd⟩ := X
  intro H locs ls hP hS hl
  exact lv_ldiv hx hb hd hne (k _ rfl H locs ls hP hS hl)
theorem g_lrem (X : gX Γ cc own nL ret d ad post) {x y : Int64} (hd : decode cc pc = .ok (.lrem, 1)) (hne : ¬ y = 0) (k : ∀ z : Int64, z = x - x / y * y → G Γ M (pc + 1) L (.long z :: S)) : G Γ M pc L (.long y :: .long x :: S) := by
  obtain ⟨p, l, e, s, m, args, below, meth, c, D, cI, cJ, cZ, ad', d', nL', post'⟩ := Γ
  obtain ⟨rfl, rfl, rfl, rfl, hx, hb, hml, hr, hlk, hown, hts, hK, hN, hAd⟩ := X
  intro H locs ls hP hS hl
  exact lv_lrem hx hb hd hne (k _ rfl H locs ls hP hS hl)
theorem g_lshl (X : gX Γ cc own nL ret d ad post) {x : Int64} {y : Int32} (hd : decode cc pc = .ok (.lshl, 1)) (k : ∀ z : Int64, z = x <<< (y.toInt64 &&& 63) → G Γ M (pc + 1) L (.long z :: S)) : G Γ M pc L (.int y :: .long x :: S) := by
  obtain ⟨p, l, e, s, m, args, below, meth, c, D, cI, cJ, cZ, ad', d', nL', post'⟩ := Γ
  obtain ⟨rfl, rfl, rfl, rfl, hx, hb, hml, hr, hlk, hown, hts, hK, hN, hAd⟩ := X
  intro H locs ls hP hS hl
  exact lv_lshl hx hb hd rfl (k _ rfl H locs ls hP hS hl)
theorem g_lshr (X : gX Γ cc own nL ret d ad post) {x : Int64} {y : Int32} (hd : decode cc pc = .ok (.lshr, 1)) (k : ∀ z : Int64, z = x >>> (y.toInt64 &&& 63) → G Γ M (pc + 1) L (.long z :: S)) : G Γ M pc L (.int y :: .long x :: S) := by
  obtain ⟨p, l, e, s, m, args, below, meth, c, D, cI, cJ, cZ, ad', d', nL', post'⟩ := Γ
  obtain ⟨rfl, rfl, rfl, rfl, hx, hb, hml, hr, hlk, hown, hts, hK, hN, hAd⟩ := X
  intro H locs ls hP hS hl
  exact lv_lshr hx hb hd rfl (k _ rfl H locs ls hP hS hl)
theorem g_lushr (X : gX Γ cc own nL ret d ad post) {x : Int64} {y : Int32} (hd : decode cc pc = .ok (.lushr, 1)) (k : ∀ z : Int64, z = (x.toUInt64 >>> (y.toInt64.toUInt64 &&& Int64.toUInt64 63)).toInt64 → G Γ M (pc + 1) L (.long z :: S)) : G Γ M pc L (.int y :: .long x :: S) := by
  obtain ⟨p, l, e, s, m, args, below, meth, c, D, cI, cJ, cZ, ad', d', nL', post'⟩ := Γ
  obtain ⟨rfl, rfl, rfl, rfl, hx, hb, hml, hr, hlk, hown, hts, hK, hN, hAd⟩ := X
  intro H locs ls hP hS hl
  exact lv_lushr hx hb hd rfl (k _ rfl H locs ls hP hS hl)
theorem g_i2l (X : gX Γ cc own nL ret d ad post) {x : Int32} (hd : decode cc pc = .ok (.i2l, 1)) (k : ∀ z : Int64, z = x.toInt64 → G Γ M (pc + 1) L (.long z :: S)) : G Γ M pc L (.int x :: S) := by
  obtain ⟨p, l, e, s, m, args, below, meth, c, D, cI, cJ, cZ, ad', d', nL', post'⟩ := Γ
  obtain ⟨rfl, rfl, rfl, rfl, hx, hb, hml, hr, hlk, hown, hts, hK, hN, hAd⟩ := X
  intro H locs ls hP hS hl
  exact lv_i2l hx hb hd rfl (k _ rfl H locs ls hP hS hl)
theorem g_l2i (X : gX Γ cc own nL ret d ad post) {x : Int64} (hd : decode cc pc = .ok (.l2i, 1)) (k : ∀ z : Int32, z = x.toInt32 → G Γ M (pc + 1) L (.int z :: S)) : G Γ M pc L (.long x :: S) := by
  obtain ⟨p, l, e, s, m, args, below, meth, c, D, cI, cJ, cZ, ad', d', nL', post'⟩ := Γ
  obtain ⟨rfl, rfl, rfl, rfl, hx, hb, hml, hr, hlk, hown, hts, hK, hN, hAd⟩ := X
  intro H locs ls hP hS hl
  exact lv_l2i hx hb hd rfl (k _ rfl H locs ls hP hS hl)
theorem g_pop (X : gX Γ cc own nL ret d ad post) {v : Value} (hd : decode cc pc = .ok (.pop, 1)) (hv : v.category = 1) (k : G Γ M (pc + 1) L S) : G Γ M pc L (v :: S) := by
  obtain ⟨p, l, e, s, m, args, below, meth, c, D, cI, cJ, cZ, ad', d', nL', post'⟩ := Γ
  obtain ⟨rfl, rfl, rfl, rfl, hx, hb, hml, hr, hlk, hown, hts, hK, hN, hAd⟩ := X
  intro H locs ls hP hS hl
  exact lv_pop hx hb hd hv (k H locs ls hP hS hl)
theorem g_dup (X : gX Γ cc own nL ret d ad post) {v : Value} (hd : decode cc pc = .ok (.dup, 1)) (hv : v.category = 1) (k : G Γ M (pc + 1) L (v :: v :: S)) : G Γ M pc L (v :: S) := by
  obtain ⟨p, l, e, s, m, args, below, meth, c, D, cI, cJ, cZ, ad', d', nL', post'⟩ := Γ
  obtain ⟨rfl, rfl, rfl, rfl, hx, hb, hml, hr, hlk, hown, hts, hK, hN, hAd⟩ := X
  intro H locs ls hP hS hl
  exact lv_dup hx hb hd hv (k H locs ls hP hS hl)
theorem g_dup2 (X : gX Γ cc own nL ret d ad post) {v u : Value} (hd : decode cc pc = .ok (.dup2, 1)) (hv : v.category = 1) (hu : u.category = 1) (k : G Γ M (pc + 1) L (v :: u :: v :: u :: S)) : G Γ M pc L (v :: u :: S) := by
  obtain ⟨p, l, e, s, m, args, below, meth, c, D, cI, cJ, cZ, ad', d', nL', post'⟩ := Γ
  obtain ⟨rfl, rfl, rfl, rfl, hx, hb, hml, hr, hlk, hown, hts, hK, hN, hAd⟩ := X
  intro H locs ls hP hS hl
  exact lv_dup2_11 hx hb hd hv hu (k H locs ls hP hS hl)
theorem g_goto (X : gX Γ cc own nL ret d ad post) {off : Int} {tgt : Nat} (hd : decode cc pc = .ok (.goto off, 3)) (ht : (pc : Int) + off = (tgt : Int)) (k : G Γ M tgt L S) : G Γ M pc L S := by
  obtain ⟨p, l, e, s, m, args, below, meth, c, D, cI, cJ, cZ, ad', d', nL', post'⟩ := Γ
  obtain ⟨rfl, rfl, rfl, rfl, hx, hb, hml, hr, hlk, hown, hts, hK, hN, hAd⟩ := X
  intro H locs ls hP hS hl
  exact lv_goto hx hb hd ht (k H locs ls hP hS hl)
theorem g_icmp_eq (X : gX Γ cc own nL ret d ad post) {x y : Int32} {a b : Int} (ha : x.toInt = a) (hb' : y.toInt = b) {off : Int} {tgt : Nat} (hd : decode cc pc = .ok (.if_icmp .eq off, 3)) (ht : (pc : Int) + off = (tgt : Int)) (kt : a = b → G Γ M tgt L S) (kf : a ≠ b → G Γ M (pc + 3) L S) : G Γ M pc L (.int y :: .int x :: S) := by
  obtain ⟨p, l, e, s, m, args, below, meth, c, D, cI, cJ, cZ, ad', d', nL', post'⟩ := Γ
  obtain ⟨rfl, rfl, rfl, rfl, hx, hb, hml, hr, hlk, hown, hts, hK, hN, hAd⟩ := X
  intro H locs ls hP hS hl
  refine lv_icmp_eq hx hb hd ht (fun h => ?_) (fun h => ?_)
  · exact (fun h => kt (by rw [← ha, ← hb', h])) h H locs ls hP hS hl
  · exact (fun h => kf (fun q => h (Int32.toInt_inj.mp (by rw [ha, hb', q])))) h H locs ls hP hS hl
theorem g_if_eq (X : gX Γ cc own nL ret d ad post) {x : Int32} {a : Int} (ha : x.toInt = a) {off : Int} {tgt : Nat} (hd : decode cc pc = .ok (.ifCond .eq off, 3)) (ht : (pc : Int) + off = (tgt : Int)) (kt : a = 0 → G Γ M tgt L S) (kf : a ≠ 0 → G Γ M (pc + 3) L S) : G Γ M pc L (.int x :: S) := by
  obtain ⟨p, l, e, s, m, args, below, meth, c, D, cI, cJ, cZ, ad', d', nL', post'⟩ := Γ
  obtain ⟨rfl, rfl, rfl, rfl, hx, hb, hml, hr, hlk, hown, hts, hK, hN, hAd⟩ := X
  intro H locs ls hP hS hl
  refine lv_if_eq hx hb hd ht (fun h => ?_) (fun h => ?_)
  · exact (fun h => kt (by rw [← ha, h]; exact Int32.toInt_zero)) h H locs ls hP hS hl
  · exact (fun h => kf (fun q => h (Int32.toInt_inj.mp (by rw [ha, q, Int32.toInt_zero])))) h H locs ls hP hS hl
theorem g_icmp_ne (X : gX Γ cc own nL ret d ad post) {x y : Int32} {a b : Int} (ha : x.toInt = a) (hb' : y.toInt = b) {off : Int} {tgt : Nat} (hd : decode cc pc = .ok (.if_icmp .ne off, 3)) (ht : (pc : Int) + off = (tgt : Int)) (kt : a ≠ b → G Γ M tgt L S) (kf : a = b → G Γ M (pc + 3) L S) : G Γ M pc L (.int y :: .int x :: S) := by
  obtain ⟨p, l, e, s, m, args, below, meth, c, D, cI, cJ, cZ, ad', d', nL', post'⟩ := Γ
  obtain ⟨rfl, rfl, rfl, rfl, hx, hb, hml, hr, hlk, hown, hts, hK, hN, hAd⟩ := X
  intro H locs ls hP hS hl
  refine lv_icmp_ne hx hb hd ht (fun h => ?_) (fun h => ?_)
  · exact (fun h => kt (fun q => h (Int32.toInt_inj.mp (by rw [ha, hb', q])))) h H locs ls hP hS hl
  · exact (fun h => kf (by rw [← ha, ← hb', h])) h H locs ls hP hS hl
theorem g_if_ne (X : gX Γ cc own nL ret d ad post) {x : Int32} {a : Int} (ha : x.toInt = a) {off : Int} {tgt : Nat} (hd : decode cc pc = .ok (.ifCond .ne off, 3)) (ht : (pc : Int) + off = (tgt : Int)) (kt : a ≠ 0 → G Γ M tgt L S) (kf : a = 0 → G Γ M (pc + 3) L S) : G Γ M pc L (.int x :: S) := by
  obtain ⟨p, l, e, s, m, args, below, meth, c, D, cI, cJ, cZ, ad', d', nL', post'⟩ := Γ
  obtain ⟨rfl, rfl, rfl, rfl, hx, hb, hml, hr, hlk, hown, hts, hK, hN, hAd⟩ := X
  intro H locs ls hP hS hl
  refine lv_if_ne hx hb hd ht (fun h => ?_) (fun h => ?_)
  · exact (fun h => kt (fun q => h (Int32.toInt_inj.mp (by rw [ha, q, Int32.toInt_zero])))) h H locs ls hP hS hl
  · exact (fun h => kf (by rw [← ha, h]; exact Int32.toInt_zero)) h H locs ls hP hS hl
theorem g_icmp_lt (X : gX Γ cc own nL ret d ad post) {x y : Int32} {a b : Int} (ha : x.toInt = a) (hb' : y.toInt = b) {off : Int} {tgt : Nat} (hd : decode cc pc = .ok (.if_icmp .lt off, 3)) (ht : (pc : Int) + off = (tgt : Int)) (kt : a < b → G Γ M tgt L S) (kf : b ≤ a → G Γ M (pc + 3) L S) : G Γ M pc L (.int y :: .int x :: S) := by
  obtain ⟨p, l, e, s, m, args, below, meth, c, D, cI, cJ, cZ, ad', d', nL', post'⟩ := Γ
  obtain ⟨rfl, rfl, rfl, rfl, hx, hb, hml, hr, hlk, hown, hts, hK, hN, hAd⟩ := X
  intro H locs ls hP hS hl
  refine lv_icmp_lt hx hb hd ht (fun h => ?_) (fun h => ?_)
  · exact (fun h => kt (by rw [← ha, ← hb']; exact Int32.lt_iff_toInt_lt.mp h)) h H locs ls hP hS hl
  · exact (fun h => kf (by rw [← ha, ← hb']; exact Int.not_lt.mp (fun q => h (Int32.lt_iff_toInt_lt.mpr q)))) h H locs ls hP hS hl
theorem g_if_lt (X : gX Γ cc own nL ret d ad post) {x : Int32} {a : Int} (ha : x.toInt = a) {off : Int} {tgt : Nat} (hd : decode cc pc = .ok (.ifCond .lt off, 3)) (ht : (pc : Int) + off = (tgt : Int)) (kt : a < 0 → G Γ M tgt L S) (kf : 0 ≤ a → G Γ M (pc + 3) L S) : G Γ M pc L (.int x :: S) := by
  obtain ⟨p, l, e, s, m, args, below, meth, c, D, cI, cJ, cZ, ad', d', nL', post'⟩ := Γ
  obtain ⟨rfl, rfl, rfl, rfl, hx, hb, hml, hr, hlk, hown, hts, hK, hN, hAd⟩ := X
  intro H locs ls hP hS hl
  refine lv_if_lt hx hb hd ht (fun h => ?_) (fun h => ?_)
  · exact (fun h => kt (by rw [← ha, ← Int32.toInt_zero]; exact Int32.lt_iff_toInt_lt.mp h)) h H locs ls hP hS hl
  · exact (fun h => kf (by rw [← ha, ← Int32.toInt_zero]; exact Int.not_lt.mp (fun q => h (Int32.lt_iff_toInt_lt.mpr q)))) h H locs ls hP hS hl
theorem g_icmp_ge (X : gX Γ cc own nL ret d ad post) {x y : Int32} {a b : Int} (ha : x.toInt = a) (hb' : y.toInt = b) {off : Int} {tgt : Nat} (hd : decode cc pc = .ok (.if_icmp .ge off, 3)) (ht : (pc : Int) + off = (tgt : Int)) (kt : b ≤ a → G Γ M tgt L S) (kf : a < b → G Γ M (pc + 3) L S) : G Γ M pc L (.int y :: .int x :: S) := by
  obtain ⟨p, l, e, s, m, args, below, meth, c, D, cI, cJ, cZ, ad', d', nL', post'⟩ := Γ
  obtain ⟨rfl, rfl, rfl, rfl, hx, hb, hml, hr, hlk, hown, hts, hK, hN, hAd⟩ := X
  intro H locs ls hP hS hl
  refine lv_icmp_ge hx hb hd ht (fun h => ?_) (fun h => ?_)
  · exact (fun h => kt (by rw [← ha, ← hb']; exact Int32.le_iff_toInt_le.mp h)) h H locs ls hP hS hl
  · exact (fun h => kf (by rw [← ha, ← hb']; exact Int.not_le.mp (fun q => h (Int32.le_iff_toInt_le.mpr q)))) h H locs ls hP hS hl
theorem g_if_ge (X : gX Γ cc own nL ret d ad post) {x : Int32} {a : Int} (ha : x.toInt = a) {off : Int} {tgt : Nat} (hd : decode cc pc = .ok (.ifCond .ge off, 3)) (ht : (pc : Int) + off = (tgt : Int)) (kt : 0 ≤ a → G Γ M tgt L S) (kf : a < 0 → G Γ M (pc + 3) L S) : G Γ M pc L (.int x :: S) := by
  obtain ⟨p, l, e, s, m, args, below, meth, c, D, cI, cJ, cZ, ad', d', nL', post'⟩ := Γ
  obtain ⟨rfl, rfl, rfl, rfl, hx, hb, hml, hr, hlk, hown, hts, hK, hN, hAd⟩ := X
  intro H locs ls hP hS hl
  refine lv_if_ge hx hb hd ht (fun h => ?_) (fun h => ?_)
  · exact (fun h => kt (by rw [← ha, ← Int32.toInt_zero]; exact Int32.le_iff_toInt_le.mp h)) h H locs ls hP hS hl
  · exact (fun h => kf (by rw [← ha, ← Int32.toInt_zero]; exact Int.not_le.mp (fun q => h (Int32.le_iff_toInt_le.mpr q)))) h H locs ls hP hS hl
theorem g_icmp_gt (X : gX Γ cc own nL ret d ad post) {x y : Int32} {a b : Int} (ha : x.toInt = a) (hb' : y.toInt = b) {off : Int} {tgt : Nat} (hd : decode cc pc = .ok (.if_icmp .gt off, 3)) (ht : (pc : Int) + off = (tgt : Int)) (kt : b < a → G Γ M tgt L S) (kf : a ≤ b → G Γ M (pc + 3) L S) : G Γ M pc L (.int y :: .int x :: S) := by
  obtain ⟨p, l, e, s, m, args, below, meth, c, D, cI, cJ, cZ, ad', d', nL', post'⟩ := Γ
  obtain ⟨rfl, rfl, rfl, rfl, hx, hb, hml, hr, hlk, hown, hts, hK, hN, hAd⟩ := X
  intro H locs ls hP hS hl
  refine lv_icmp_gt hx hb hd ht (fun h => ?_) (fun h => ?_)
  · exact (fun h => kt (by rw [← ha, ← hb']; exact Int32.lt_iff_toInt_lt.mp h)) h H locs ls hP hS hl
  · exact (fun h => kf (by rw [← ha, ← hb']; exact Int.not_lt.mp (fun q => h (Int32.lt_iff_toInt_lt.mpr q)))) h H locs ls hP hS hl
theorem g_if_gt (X : gX Γ cc own nL ret d ad post) {x : Int32} {a : Int} (ha : x.toInt = a) {off : Int} {tgt : Nat} (hd : decode cc pc = .ok (.ifCond .gt off, 3)) (ht : (pc : Int) + off = (tgt : Int)) (kt : 0 < a → G Γ M tgt L S) (kf : a ≤ 0 → G Γ M (pc + 3) L S) : G Γ M pc L (.int x :: S) := by
  obtain ⟨p, l, e, s, m, args, below, meth, c, D, cI, cJ, cZ, ad', d', nL', post'⟩ := Γ
  obtain ⟨rfl, rfl, rfl, rfl, hx, hb, hml, hr, hlk, hown, hts, hK, hN, hAd⟩ := X
  intro H locs ls hP hS hl
  refine lv_if_gt hx hb hd ht (fun h => ?_) (fun h => ?_)
  · exact (fun h => kt (by rw [← ha, ← Int32.toInt_zero]; exact Int32.lt_iff_toInt_lt.mp h)) h H locs ls hP hS hl
  · exact (fun h => kf (by rw [← ha, ← Int32.toInt_zero]; exact Int.not_lt.mp (fun q => h (Int32.lt_iff_toInt_lt.mpr q)))) h H locs ls hP hS hl
theorem g_icmp_le (X : gX Γ cc own nL ret d ad post) {x y : Int32} {a b : Int} (ha : x.toInt = a) (hb' : y.toInt = b) {off : Int} {tgt : Nat} (hd : decode cc pc = .ok (.if_icmp .le off, 3)) (ht : (pc : Int) + off = (tgt : Int)) (kt : a ≤ b → G Γ M tgt L S) (kf : b < a → G Γ M (pc + 3) L S) : G Γ M pc L (.int y :: .int x :: S) := by
  obtain ⟨p, l, e, s, m, args, below, meth, c, D, cI, cJ, cZ, ad', d', nL', post'⟩ := Γ
  obtain ⟨rfl, rfl, rfl, rfl, hx, hb, hml, hr, hlk, hown, hts, hK, hN, hAd⟩ := X
  intro H locs ls hP hS hl
  refine lv_icmp_le hx hb hd ht (fun h => ?_) (fun h => ?_)
  · exact (fun h => kt (by rw [← ha, ← hb']; exact Int32.le_iff_toInt_le.mp h)) h H locs ls hP hS hl
  · exact (fun h => kf (by rw [← ha, ← hb']; exact Int.not_le.mp (fun q => h (Int32.le_iff_toInt_le.mpr q)))) h H locs ls hP hS hl
theorem g_if_le (X : gX Γ cc own nL ret d ad post) {x : Int32} {a : Int} (ha : x.toInt = a) {off : Int} {tgt : Nat} (hd : decode cc pc = .ok (.ifCond .le off, 3)) (ht : (pc : Int) + off = (tgt : Int)) (kt : a ≤ 0 → G Γ M tgt L S) (kf : 0 < a → G Γ M (pc + 3) L S) : G Γ M pc L (.int x :: S) := by
  obtain ⟨p, l, e, s, m, args, below, meth, c, D, cI, cJ, cZ, ad', d', nL', post'⟩ := Γ
  obtain ⟨rfl, rfl, rfl, rfl, hx, hb, hml, hr, hlk, hown, hts, hK, hN, hAd⟩ := X
  intro H locs ls hP hS hl
  refine lv_if_le hx hb hd ht (fun h => ?_) (fun h => ?_)
  · exact (fun h => kt (by rw [← ha, ← Int32.toInt_zero]; exact Int32.le_iff_toInt_le.mp h)) h H locs ls hP hS hl
  · exact (fun h => kf (by rw [← ha, ← Int32.toInt_zero]; exact Int.not_le.mp (fun q => h (Int32.le_iff_toInt_le.mpr q)))) h H locs ls hP hS hl
end
end
